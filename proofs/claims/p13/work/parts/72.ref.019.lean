theorem WG.need {W : Nat → Int32} (h : WG W) (x : Int32) : WG (upd W 4 x) := h.put _ (fre_lo (by omega) (by omega))
