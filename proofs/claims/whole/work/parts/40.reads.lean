theorem r_I_sR (S : ce_S) (t k i v : Nat) : ce_I (ce_sR S t k i v) = ce_I S := rfl
theorem r_I_sA (S : ce_S) (t i e : Nat) (v : Int32) : ce_I (ce_sA S t i e v) = ce_I S := rfl
theorem r_I_sF (S : ce_S) (t i : Nat) (f : Nat → Int32) : ce_I (ce_sF S t i f) = ce_I S := rfl
theorem r_I_sQ (S : ce_S) (e v : Nat) : ce_I (ce_sQ S e v) = ce_I S := rfl
theorem r_R_sI (S : ce_S) (t k i : Nat) (v : Int32) : ce_R (ce_sI S t k i v) = ce_R S := rfl
theorem r_R_sA (S : ce_S) (t i e : Nat) (v : Int32) : ce_R (ce_sA S t i e v) = ce_R S := rfl
theorem r_R_sF (S : ce_S) (t i : Nat) (f : Nat → Int32) : ce_R (ce_sF S t i f) = ce_R S := rfl
theorem r_R_sQ (S : ce_S) (e v : Nat) : ce_R (ce_sQ S e v) = ce_R S := rfl
theorem r_A_sI (S : ce_S) (t k i : Nat) (v : Int32) : ce_A (ce_sI S t k i v) = ce_A S := rfl
theorem r_A_sR (S : ce_S) (t k i v : Nat) : ce_A (ce_sR S t k i v) = ce_A S := rfl
theorem r_A_sQ (S : ce_S) (e v : Nat) : ce_A (ce_sQ S e v) = ce_A S := rfl
theorem r_L_sI (S : ce_S) (t k i : Nat) (v : Int32) : ce_L (ce_sI S t k i v) = ce_L S := rfl
theorem r_L_sR (S : ce_S) (t k i v : Nat) : ce_L (ce_sR S t k i v) = ce_L S := rfl
theorem r_L_sA (S : ce_S) (t i e : Nat) (v : Int32) : ce_L (ce_sA S t i e v) = ce_L S := rfl
theorem r_L_sF (S : ce_S) (t i : Nat) (f : Nat → Int32) : ce_L (ce_sF S t i f) = ce_L S := rfl
theorem r_L_sQ (S : ce_S) (e v : Nat) : ce_L (ce_sQ S e v) = ce_L S := rfl
theorem r_C_sI (S : ce_S) (t k i : Nat) (v : Int32) : ce_C (ce_sI S t k i v) = ce_C S := rfl
theorem r_C_sR (S : ce_S) (t k i v : Nat) : ce_C (ce_sR S t k i v) = ce_C S := rfl
theorem r_C_sA (S : ce_S) (t i e : Nat) (v : Int32) : ce_C (ce_sA S t i e v) = ce_C S := rfl
theorem r_C_sF (S : ce_S) (t i : Nat) (f : Nat → Int32) : ce_C (ce_sF S t i f) = ce_C S := rfl
theorem r_C_sQ (S : ce_S) (e v : Nat) : ce_C (ce_sQ S e v) = ce_C S := rfl
theorem r_Q_sI (S : ce_S) (t k i : Nat) (v : Int32) : ce_Q (ce_sI S t k i v) = ce_Q S := rfl
theorem r_Q_sR (S : ce_S) (t k i v : Nat) : ce_Q (ce_sR S t k i v) = ce_Q S := rfl
theorem r_Q_sA (S : ce_S) (t i e : Nat) (v : Int32) : ce_Q (ce_sA S t i e v) = ce_Q S := rfl
theorem r_Q_sF (S : ce_S) (t i : Nat) (f : Nat → Int32) : ce_Q (ce_sF S t i f) = ce_Q S := rfl
theorem r_I_sI (S : ce_S) (t k i : Nat) (v : Int32) (t' k' i' : Nat) : ce_I (ce_sI S t k i v) t' k' i' = if t' = t then (if k' = k then (if i' = i then v else ce_I S t' k' i') else ce_I S t' k' i') else ce_I S t' k' i' := rfl
theorem r_R_sR (S : ce_S) (t k i v : Nat) (t' k' i' : Nat) : ce_R (ce_sR S t k i v) t' k' i' = if t' = t then (if k' = k then (if i' = i then v else ce_R S t' k' i') else ce_R S t' k' i') else ce_R S t' k' i' := rfl
theorem r_A_sA (S : ce_S) (t i e : Nat) (v : Int32) (t' i' e' : Nat) : ce_A (ce_sA S t i e v) t' i' e' = if t' = t then (if i' = i then (if e' = e then v else ce_A S t' i' e') else ce_A S t' i' e') else ce_A S t' i' e' := rfl
theorem r_A_sF (S : ce_S) (t i : Nat) (f : Nat → Int32) (t' i' : Nat) : ce_A (ce_sF S t i f) t' i' = if t' = t then (if i' = i then f else ce_A S t' i') else ce_A S t' i' := rfl
theorem r_Q_sQ (S : ce_S) (e v : Nat) (e' : Nat) : ce_Q (ce_sQ S e v) e' = if e' = e then some v else ce_Q S e' := rfl
