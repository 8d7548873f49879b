def wpTalk_begin (post : Int32 → Int32 → Prop) : Prop := (post 0 0)
def wpTalk_say (R0size : Int32) (R0out : Int32) (R0num : Nat → Int32) (v1 : Int32) (post : Int32 → Int32 → (Nat → Int32) → Prop) : Prop := ((R0size < 50 → vp_in R0size 50 ∧ (post (R0size + 1) R0out (upd R0num (Int32.toNatClampNeg R0size) v1))) ∧ (¬ R0size < 50 → (post R0size 2 R0num)))
def wpTalk_fail (v1 : Int32) (post : Int32 → Prop) : Prop := (post v1)
def wpTalk_outcome (R0out : Int32) (post : Int32 → Prop) : Prop := (post R0out)
def wpTalk_size (R0size : Int32) (post : Int32 → Prop) : Prop := (post R0size)
def wpTalk_number (R0num : Nat → Int32) (v1 : Int32) (post : Int32 → Prop) : Prop := vp_in v1 50 ∧ (post (R0num (Int32.toNatClampNeg v1)))
def lpTalk_isLike_26 (R0size : Int32) (R0num : Nat → Int32) (R1num : Nat → Int32) (post : Bool → Prop)  : Nat → Int32 → Prop
  | 0 => fun _ => False
  | k26 + 1 => fun v2 => ((R0size ≤ v2 → (post true)) ∧ (¬ R0size ≤ v2 → vp_in v2 50 ∧ vp_in v2 50 ∧ (((R0num (Int32.toNatClampNeg v2)) = (R1num (Int32.toNatClampNeg v2)) → (lpTalk_isLike_26 R0size R0num R1num post k26 (v2 + 1))) ∧ (¬ (R0num (Int32.toNatClampNeg v2)) = (R1num (Int32.toNatClampNeg v2)) → (post false)))))
def wpTalk_isLike (R0size : Int32) (R0out : Int32) (R0num : Nat → Int32) (R1size : Int32) (R1out : Int32) (R1num : Nat → Int32) (post : Bool → Prop) : Prop := ((¬ R0out = R1out → (post false)) ∧ (R0out = R1out → ((R0size = R1size → (∃ k26 : Nat, lpTalk_isLike_26 R0size R0num R1num post k26 0)) ∧ (¬ R0size = R1size → (post false)))))
