def sm_feed (I : Mm → Prop) : Prop := ∀ (mm : Mm) (a1 : Int32) (a2 : Int32) (a3 : Int32) (a4 : Int32) (a5 : Int32), I mm → ∃ (r : Int32) (m1 m2 : Mm), f_X11_feed mm a1 a2 a3 a4 a5 = some (r, m1) ∧ f_X12_feed m1 a1 a2 a3 a4 a5 = some (r, m2) ∧ I m2
def sm_end (I : Mm → Prop) : Prop := ∀ (mm : Mm) (a1 : Int32), I mm → ∃ (r : Int32) (m1 m2 : Mm), f_X11_end mm a1 = some (r, m1) ∧ f_X12_end m1 a1 = some (r, m2) ∧ I m2
def sm_river (I : Mm → Prop) : Prop := ∀ (mm : Mm), I mm → ∃ (r : Int32) (m1 m2 : Mm), f_X11_river mm = some (r, m1) ∧ f_X12_river m1 = some (r, m2) ∧ I m2
def sm_rule (I : Mm → Prop) : Prop := ∀ (mm : Mm), I mm → ∃ (r : Int32) (m1 m2 : Mm), f_X11_rule mm = some (r, m1) ∧ f_X12_rule m1 = some (r, m2) ∧ I m2
def sm_owner (I : Mm → Prop) : Prop := ∀ (mm : Mm) (a1 : Int32) (a2 : Int32), I mm → ∃ (r : Int32) (m1 : Mm), f_X11_owner mm a1 a2 = some (r, m1) ∧ f_X12_owner m1 a1 a2 = some r ∧ I m1
def sm_thing (I : Mm → Prop) : Prop := ∀ (mm : Mm) (a1 : Int32) (a2 : Int32), I mm → ∃ (r : Int32) (m1 : Mm), f_X11_thing mm a1 a2 = some (r, m1) ∧ f_X12_thing m1 a1 a2 = some r ∧ I m1
def sm_rope (I : Mm → Prop) : Prop := ∀ (mm : Mm) (a1 : Int32) (a2 : Int32), I mm → ∃ (r : Int32), f_X11_rope mm a1 a2 = some r ∧ f_X12_rope mm a1 a2 = some r ∧ I mm
def sm_rapid (I : Mm → Prop) : Prop := ∀ (mm : Mm) (a1 : Int32), I mm → ∃ (r : Int32), f_X11_rapid mm a1 = some r ∧ f_X12_rapid mm a1 = some r ∧ I mm
def sm_margin (I : Mm → Prop) : Prop := ∀ (mm : Mm) (a1 : Int32), I mm → ∃ (r : Int32) (m1 : Mm), f_X11_margin mm a1 = some (r, m1) ∧ f_X12_margin m1 a1 = some r ∧ I m1
def sm_mile (I : Mm → Prop) : Prop := ∀ (mm : Mm), I mm → ∃ (r : Int32) (m1 m2 : Mm), f_X11_mile mm = some (r, m1) ∧ f_X12_mile m1 = some (r, m2) ∧ I m2
def sm_bind (I : Mm → Prop) : Prop := ∀ (mm : Mm) (a1 : Int32) (a2 : Int32) (a3 : Int32), I mm → ∃ (r : Int32) (m1 m2 : Mm), f_X11_bind mm a1 a2 a3 = some (r, m1) ∧ f_X12_bind m1 a1 a2 a3 = some (r, m2) ∧ I m2
def sm_cut (I : Mm → Prop) : Prop := ∀ (mm : Mm) (a1 : Int32), I mm → ∃ (r : Int32) (m1 m2 : Mm), f_X11_cut mm a1 = some (r, m1) ∧ f_X12_cut m1 a1 = some (r, m2) ∧ I m2
def sm_saw (I : Mm → Prop) : Prop := ∀ (mm : Mm) (a1 : Int32), I mm → ∃ (r : Int32) (m1 m2 : Mm), f_X11_saw mm a1 = some (r, m1) ∧ f_X12_saw m1 a1 = some (r, m2) ∧ I m2
def sm_push (I : Mm → Prop) : Prop := ∀ (mm : Mm) (a1 : Int32) (a2 : Int32), I mm → ∃ (r : Int32) (m1 m2 : Mm), f_X11_push mm a1 a2 = some (r, m1) ∧ f_X12_push m1 a1 a2 = some (r, m2) ∧ I m2
def sm_undo (I : Mm → Prop) : Prop := ∀ (mm : Mm), I mm → ∃ (r : Int32) (m1 m2 : Mm), f_X11_undo mm = some (r, m1) ∧ f_X12_undo m1 = some (r, m2) ∧ I m2
def sm_run (I : Mm → Prop) : Prop := ∀ (mm : Mm) (a1 : Int32) (a2 : Int32) (a3 : Int32), I mm → ∃ (r : Int32) (m1 m2 : Mm), f_X11_run mm a1 a2 a3 = some (r, m1) ∧ f_X12_run m1 a1 a2 a3 = some (r, m2) ∧ I m2
def sm_ahead (I : Mm → Prop) : Prop := ∀ (mm : Mm) (a1 : Int32) (a2 : Int32), I mm → ∃ (r : Int32) (m1 m2 : Mm), f_X11_ahead mm a1 a2 = some (r, m1) ∧ f_X12_ahead m1 a1 a2 = some (r, m2) ∧ I m2
def sm_sinks (I : Mm → Prop) : Prop := ∀ (mm : Mm) (a1 : Int32), I mm → ∃ (r : Int32) (m1 m2 : Mm), f_X11_sinks mm a1 = some (r, m1) ∧ f_X12_sinks m1 a1 = some (r, m2) ∧ I m2
def sm_bearers (I : Mm → Prop) : Prop := ∀ (mm : Mm) (a1 : Int32) (a2 : Int32), I mm → ∃ (r : Int32), f_X11_bearers mm a1 a2 = some r ∧ f_X12_bearers mm a1 a2 = some r ∧ I mm
def sm_plan (I : Mm → Prop) : Prop := ∀ (mm : Mm) (a1 : Int32), I mm → ∃ (r : Int32) (m1 m2 : Mm), f_X11_plan mm a1 = some (r, m1) ∧ f_X12_plan m1 a1 = some (r, m2) ∧ I m2
def sm_sawn (I : Mm → Prop) : Prop := ∀ (mm : Mm) (a1 : Int32) (a2 : Int32), I mm → ∃ (r : Int32) (m1 : Mm), f_X11_sawn mm a1 a2 = some (r, m1) ∧ f_X12_sawn m1 a1 a2 = some r ∧ I m1
def sm_locks (I : Mm → Prop) : Prop := ∀ (mm : Mm) (a1 : Int32) (a2 : Int32), I mm → ∃ (r : Int32) (m1 m2 : Mm), f_X11_locks mm a1 a2 = some (r, m1) ∧ f_X12_locks m1 a1 a2 = some (r, m2) ∧ I m2
def sm_delta (I : Mm → Prop) : Prop := ∀ (mm : Mm) (a1 : Int32), I mm → ∃ (r : Int32) (m1 m2 : Mm), f_X11_delta mm a1 = some (r, m1) ∧ f_X12_delta m1 a1 = some (r, m2) ∧ I m2
def sm_weak (I : Mm → Prop) : Prop := ∀ (mm : Mm) (a1 : Int32), I mm → ∃ (r : Int32) (m1 : Mm), f_X11_weak mm a1 = some (r, m1) ∧ f_X12_weak m1 a1 = some r ∧ I m1
def sm_offer (I : Mm → Prop) : Prop := ∀ (mm : Mm) (a1 : Int32) (a2 : Int32) (a3 : Int32), I mm → ∃ (r : Int32) (m1 m2 : Mm), f_X11_offer mm a1 a2 a3 = some (r, m1) ∧ f_X12_offer m1 a1 a2 a3 = some (r, m2) ∧ I m2
def sm_take (I : Mm → Prop) : Prop := ∀ (mm : Mm) (a1 : Int32) (a2 : Int32), I mm → ∃ (r : Int32) (m1 : Mm), f_X11_take mm a1 a2 = some (r, m1) ∧ f_X12_take m1 a1 a2 = some r ∧ I m1
def sm_game (I : Mm → Prop) : Prop := ∀ (mm : Mm) (a1 : Int32) (a2 : Int32), I mm → ∃ (r : Int32) (m1 m2 : Mm), f_X11_game mm a1 a2 = some (r, m1) ∧ f_X12_game m1 a1 a2 = some (r, m2) ∧ I m2
def sm_seed (I : Mm → Prop) : Prop := ∀ (mm : Mm) (a1 : Int32), I mm → ∃ (r : Int32) (m1 m2 : Mm), f_X11_seed mm a1 = some (r, m1) ∧ f_X12_seed m1 a1 = some (r, m2) ∧ I m2
def sm_drawn (I : Mm → Prop) : Prop := ∀ (mm : Mm) (a1 : Int32) (a2 : Int32) (a3 : Int32), I mm → ∃ (r : Int32) (m1 m2 : Mm), f_X11_drawn mm a1 a2 a3 = some (r, m1) ∧ f_X12_drawn m1 a1 a2 a3 = some (r, m2) ∧ I m2
def sm_count (I : Mm → Prop) : Prop := ∀ (mm : Mm) (a1 : Int32), I mm → ∃ (r : Int32) (m1 : Mm), f_X11_count mm a1 = some (r, m1) ∧ f_X12_count m1 a1 = some r ∧ I m1
def sm_image (I : Mm → Prop) : Prop := ∀ (mm : Mm) (a1 : Int32), I mm → ∃ (r : Int32) (m1 m2 : Mm), f_X11_image mm a1 = some (r, m1) ∧ f_X12_image m1 a1 = some (r, m2) ∧ I m2
def sm_back (I : Mm → Prop) : Prop := ∀ (mm : Mm) (a1 : Int32), I mm → ∃ (r : Int32) (m1 m2 : Mm), f_X11_back mm a1 = some (r, m1) ∧ f_X12_back m1 a1 = some (r, m2) ∧ I m2
def sm_all (I : Mm → Prop) : Prop := sm_feed I ∧ sm_end I ∧ sm_river I ∧ sm_rule I ∧ sm_owner I ∧ sm_thing I ∧ sm_rope I ∧ sm_rapid I ∧ sm_margin I ∧ sm_mile I ∧ sm_bind I ∧ sm_cut I ∧ sm_saw I ∧ sm_push I ∧ sm_undo I ∧ sm_run I ∧ sm_ahead I ∧ sm_sinks I ∧ sm_bearers I ∧ sm_plan I ∧ sm_sawn I ∧ sm_locks I ∧ sm_delta I ∧ sm_weak I ∧ sm_offer I ∧ sm_take I ∧ sm_game I ∧ sm_seed I ∧ sm_drawn I ∧ sm_count I ∧ sm_image I ∧ sm_back I
