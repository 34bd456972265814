def WG : List Cond := lw_tbl.filter goodWord
theorem WG_mem {w : Cond} (i : Nat) (h : lw_tbl[i]? = some w) (hg : goodWord w = true) : w ∈ WG := List.mem_filter.mpr ⟨List.mem_of_getElem? h, hg⟩
theorem WG_in : ∀ w ∈ WG, w ∈ lw_tbl := fun _ h => (List.mem_filter.mp h).1
theorem WG_good (c0 : Cond) (hc : goodWord c0 = true) (c1 : Cond) (h1 : c1 ∈ WG) : GoodIn (c0 :: WG) (c1 :: WG) := by
  intro w hw
  have : w ∈ WG := by
    rcases List.mem_cons.mp hw with h | h
    · rw [h]; exact h1
    · exact h
  exact ⟨List.mem_cons_of_mem _ this, good_of_word (List.mem_filter.mp this).2⟩
theorem tcj_0 : ∀ w ∈ tables_1_1, w ∈ lw_tbl := fun w h => List.mem_append_right _ (show w ∈ tables_1 from List.mem_append_left _ h)
theorem tcj_1 : ∀ w ∈ tables_1_2, w ∈ lw_tbl := fun w h => List.mem_append_right _ (show w ∈ tables_1 from List.mem_append_right _ (List.mem_append_left _ h))
theorem tcj_2 : ∀ w ∈ tables_1_3, w ∈ lw_tbl := fun w h => List.mem_append_right _ (show w ∈ tables_1 from List.mem_append_right _ (List.mem_append_right _ (List.mem_append_left _ h)))
theorem tcj_3 : ∀ w ∈ tables_1_4, w ∈ lw_tbl := fun w h => List.mem_append_right _ (show w ∈ tables_1 from List.mem_append_right _ (List.mem_append_right _ (List.mem_append_right _ (List.mem_append_left _ h))))
theorem tcj_4 : ∀ w ∈ tables_1_5, w ∈ lw_tbl := fun w h => List.mem_append_right _ (show w ∈ tables_1 from List.mem_append_right _ (List.mem_append_right _ (List.mem_append_right _ (List.mem_append_right _ (List.mem_append_left _ h)))))
theorem tcj_5 : ∀ w ∈ tables_1_6, w ∈ lw_tbl := fun w h => List.mem_append_right _ (show w ∈ tables_1 from List.mem_append_right _ (List.mem_append_right _ (List.mem_append_right _ (List.mem_append_right _ (List.mem_append_right _ (List.mem_append_left _ h))))))
theorem tcj_6 : ∀ w ∈ tables_1_7, w ∈ lw_tbl := fun w h => List.mem_append_right _ (show w ∈ tables_1 from List.mem_append_right _ (List.mem_append_right _ (List.mem_append_right _ (List.mem_append_right _ (List.mem_append_right _ (List.mem_append_right _ (List.mem_append_left _ h)))))))
theorem tcj_7 : ∀ w ∈ tables_1_8, w ∈ lw_tbl := fun w h => List.mem_append_right _ (show w ∈ tables_1 from List.mem_append_right _ (List.mem_append_right _ (List.mem_append_right _ (List.mem_append_right _ (List.mem_append_right _ (List.mem_append_right _ (List.mem_append_right _ (h))))))))
def tcd_0 : List Cond := tables_1_1.drop 0
theorem tcm_0 : ∀ w ∈ tcd_0, w ∈ lw_tbl := fun w h => tcj_0 w (List.mem_of_mem_drop h)
theorem tch_0 {w : Cond} (h : w ∈ tcd_0) (hg : goodWord w = true) : w ∈ WG := List.mem_filter.mpr ⟨tcm_0 w h, hg⟩
def tcd_1 : List Cond := tcd_0.drop 24
theorem tcm_1 : ∀ w ∈ tcd_1, w ∈ lw_tbl := fun w h => tcm_0 w (List.mem_of_mem_drop h)
theorem tch_1 {w : Cond} (h : w ∈ tcd_1) (hg : goodWord w = true) : w ∈ WG := List.mem_filter.mpr ⟨tcm_1 w h, hg⟩
def tcd_2 : List Cond := tcd_1.drop 24
theorem tcm_2 : ∀ w ∈ tcd_2, w ∈ lw_tbl := fun w h => tcm_1 w (List.mem_of_mem_drop h)
theorem tch_2 {w : Cond} (h : w ∈ tcd_2) (hg : goodWord w = true) : w ∈ WG := List.mem_filter.mpr ⟨tcm_2 w h, hg⟩
def tcd_3 : List Cond := tcd_2.drop 24
theorem tcm_3 : ∀ w ∈ tcd_3, w ∈ lw_tbl := fun w h => tcm_2 w (List.mem_of_mem_drop h)
theorem tch_3 {w : Cond} (h : w ∈ tcd_3) (hg : goodWord w = true) : w ∈ WG := List.mem_filter.mpr ⟨tcm_3 w h, hg⟩
def tcd_4 : List Cond := tcd_3.drop 24
theorem tcm_4 : ∀ w ∈ tcd_4, w ∈ lw_tbl := fun w h => tcm_3 w (List.mem_of_mem_drop h)
theorem tch_4 {w : Cond} (h : w ∈ tcd_4) (hg : goodWord w = true) : w ∈ WG := List.mem_filter.mpr ⟨tcm_4 w h, hg⟩
def tcd_5 : List Cond := tcd_4.drop 24
theorem tcm_5 : ∀ w ∈ tcd_5, w ∈ lw_tbl := fun w h => tcm_4 w (List.mem_of_mem_drop h)
theorem tch_5 {w : Cond} (h : w ∈ tcd_5) (hg : goodWord w = true) : w ∈ WG := List.mem_filter.mpr ⟨tcm_5 w h, hg⟩
def tcd_6 : List Cond := tcd_5.drop 24
theorem tcm_6 : ∀ w ∈ tcd_6, w ∈ lw_tbl := fun w h => tcm_5 w (List.mem_of_mem_drop h)
theorem tch_6 {w : Cond} (h : w ∈ tcd_6) (hg : goodWord w = true) : w ∈ WG := List.mem_filter.mpr ⟨tcm_6 w h, hg⟩
def tcd_7 : List Cond := tcd_6.drop 24
theorem tcm_7 : ∀ w ∈ tcd_7, w ∈ lw_tbl := fun w h => tcm_6 w (List.mem_of_mem_drop h)
theorem tch_7 {w : Cond} (h : w ∈ tcd_7) (hg : goodWord w = true) : w ∈ WG := List.mem_filter.mpr ⟨tcm_7 w h, hg⟩
def tcd_8 : List Cond := tcd_7.drop 24
theorem tcm_8 : ∀ w ∈ tcd_8, w ∈ lw_tbl := fun w h => tcm_7 w (List.mem_of_mem_drop h)
theorem tch_8 {w : Cond} (h : w ∈ tcd_8) (hg : goodWord w = true) : w ∈ WG := List.mem_filter.mpr ⟨tcm_8 w h, hg⟩
def tcd_9 : List Cond := tcd_8.drop 24
theorem tcm_9 : ∀ w ∈ tcd_9, w ∈ lw_tbl := fun w h => tcm_8 w (List.mem_of_mem_drop h)
theorem tch_9 {w : Cond} (h : w ∈ tcd_9) (hg : goodWord w = true) : w ∈ WG := List.mem_filter.mpr ⟨tcm_9 w h, hg⟩
def tcd_10 : List Cond := tables_1_2.drop 0
theorem tcm_10 : ∀ w ∈ tcd_10, w ∈ lw_tbl := fun w h => tcj_1 w (List.mem_of_mem_drop h)
theorem tch_10 {w : Cond} (h : w ∈ tcd_10) (hg : goodWord w = true) : w ∈ WG := List.mem_filter.mpr ⟨tcm_10 w h, hg⟩
def tcd_11 : List Cond := tcd_10.drop 24
theorem tcm_11 : ∀ w ∈ tcd_11, w ∈ lw_tbl := fun w h => tcm_10 w (List.mem_of_mem_drop h)
theorem tch_11 {w : Cond} (h : w ∈ tcd_11) (hg : goodWord w = true) : w ∈ WG := List.mem_filter.mpr ⟨tcm_11 w h, hg⟩
def tcd_12 : List Cond := tcd_11.drop 24
theorem tcm_12 : ∀ w ∈ tcd_12, w ∈ lw_tbl := fun w h => tcm_11 w (List.mem_of_mem_drop h)
theorem tch_12 {w : Cond} (h : w ∈ tcd_12) (hg : goodWord w = true) : w ∈ WG := List.mem_filter.mpr ⟨tcm_12 w h, hg⟩
def tcd_13 : List Cond := tcd_12.drop 24
theorem tcm_13 : ∀ w ∈ tcd_13, w ∈ lw_tbl := fun w h => tcm_12 w (List.mem_of_mem_drop h)
theorem tch_13 {w : Cond} (h : w ∈ tcd_13) (hg : goodWord w = true) : w ∈ WG := List.mem_filter.mpr ⟨tcm_13 w h, hg⟩
def tcd_14 : List Cond := tcd_13.drop 24
theorem tcm_14 : ∀ w ∈ tcd_14, w ∈ lw_tbl := fun w h => tcm_13 w (List.mem_of_mem_drop h)
theorem tch_14 {w : Cond} (h : w ∈ tcd_14) (hg : goodWord w = true) : w ∈ WG := List.mem_filter.mpr ⟨tcm_14 w h, hg⟩
def tcd_15 : List Cond := tcd_14.drop 24
theorem tcm_15 : ∀ w ∈ tcd_15, w ∈ lw_tbl := fun w h => tcm_14 w (List.mem_of_mem_drop h)
theorem tch_15 {w : Cond} (h : w ∈ tcd_15) (hg : goodWord w = true) : w ∈ WG := List.mem_filter.mpr ⟨tcm_15 w h, hg⟩
def tcd_16 : List Cond := tcd_15.drop 24
theorem tcm_16 : ∀ w ∈ tcd_16, w ∈ lw_tbl := fun w h => tcm_15 w (List.mem_of_mem_drop h)
theorem tch_16 {w : Cond} (h : w ∈ tcd_16) (hg : goodWord w = true) : w ∈ WG := List.mem_filter.mpr ⟨tcm_16 w h, hg⟩
def tcd_17 : List Cond := tcd_16.drop 24
theorem tcm_17 : ∀ w ∈ tcd_17, w ∈ lw_tbl := fun w h => tcm_16 w (List.mem_of_mem_drop h)
theorem tch_17 {w : Cond} (h : w ∈ tcd_17) (hg : goodWord w = true) : w ∈ WG := List.mem_filter.mpr ⟨tcm_17 w h, hg⟩
def tcd_18 : List Cond := tcd_17.drop 24
theorem tcm_18 : ∀ w ∈ tcd_18, w ∈ lw_tbl := fun w h => tcm_17 w (List.mem_of_mem_drop h)
theorem tch_18 {w : Cond} (h : w ∈ tcd_18) (hg : goodWord w = true) : w ∈ WG := List.mem_filter.mpr ⟨tcm_18 w h, hg⟩
def tcd_19 : List Cond := tcd_18.drop 24
theorem tcm_19 : ∀ w ∈ tcd_19, w ∈ lw_tbl := fun w h => tcm_18 w (List.mem_of_mem_drop h)
theorem tch_19 {w : Cond} (h : w ∈ tcd_19) (hg : goodWord w = true) : w ∈ WG := List.mem_filter.mpr ⟨tcm_19 w h, hg⟩
def tcd_20 : List Cond := tables_1_3.drop 0
theorem tcm_20 : ∀ w ∈ tcd_20, w ∈ lw_tbl := fun w h => tcj_2 w (List.mem_of_mem_drop h)
theorem tch_20 {w : Cond} (h : w ∈ tcd_20) (hg : goodWord w = true) : w ∈ WG := List.mem_filter.mpr ⟨tcm_20 w h, hg⟩
def tcd_21 : List Cond := tcd_20.drop 24
theorem tcm_21 : ∀ w ∈ tcd_21, w ∈ lw_tbl := fun w h => tcm_20 w (List.mem_of_mem_drop h)
theorem tch_21 {w : Cond} (h : w ∈ tcd_21) (hg : goodWord w = true) : w ∈ WG := List.mem_filter.mpr ⟨tcm_21 w h, hg⟩
def tcd_22 : List Cond := tcd_21.drop 24
theorem tcm_22 : ∀ w ∈ tcd_22, w ∈ lw_tbl := fun w h => tcm_21 w (List.mem_of_mem_drop h)
theorem tch_22 {w : Cond} (h : w ∈ tcd_22) (hg : goodWord w = true) : w ∈ WG := List.mem_filter.mpr ⟨tcm_22 w h, hg⟩
def tcd_23 : List Cond := tcd_22.drop 24
theorem tcm_23 : ∀ w ∈ tcd_23, w ∈ lw_tbl := fun w h => tcm_22 w (List.mem_of_mem_drop h)
theorem tch_23 {w : Cond} (h : w ∈ tcd_23) (hg : goodWord w = true) : w ∈ WG := List.mem_filter.mpr ⟨tcm_23 w h, hg⟩
def tcd_24 : List Cond := tcd_23.drop 24
theorem tcm_24 : ∀ w ∈ tcd_24, w ∈ lw_tbl := fun w h => tcm_23 w (List.mem_of_mem_drop h)
theorem tch_24 {w : Cond} (h : w ∈ tcd_24) (hg : goodWord w = true) : w ∈ WG := List.mem_filter.mpr ⟨tcm_24 w h, hg⟩
def tcd_25 : List Cond := tcd_24.drop 24
theorem tcm_25 : ∀ w ∈ tcd_25, w ∈ lw_tbl := fun w h => tcm_24 w (List.mem_of_mem_drop h)
theorem tch_25 {w : Cond} (h : w ∈ tcd_25) (hg : goodWord w = true) : w ∈ WG := List.mem_filter.mpr ⟨tcm_25 w h, hg⟩
def tcd_26 : List Cond := tcd_25.drop 24
theorem tcm_26 : ∀ w ∈ tcd_26, w ∈ lw_tbl := fun w h => tcm_25 w (List.mem_of_mem_drop h)
theorem tch_26 {w : Cond} (h : w ∈ tcd_26) (hg : goodWord w = true) : w ∈ WG := List.mem_filter.mpr ⟨tcm_26 w h, hg⟩
def tcd_27 : List Cond := tcd_26.drop 24
theorem tcm_27 : ∀ w ∈ tcd_27, w ∈ lw_tbl := fun w h => tcm_26 w (List.mem_of_mem_drop h)
theorem tch_27 {w : Cond} (h : w ∈ tcd_27) (hg : goodWord w = true) : w ∈ WG := List.mem_filter.mpr ⟨tcm_27 w h, hg⟩
def tcd_28 : List Cond := tcd_27.drop 24
theorem tcm_28 : ∀ w ∈ tcd_28, w ∈ lw_tbl := fun w h => tcm_27 w (List.mem_of_mem_drop h)
theorem tch_28 {w : Cond} (h : w ∈ tcd_28) (hg : goodWord w = true) : w ∈ WG := List.mem_filter.mpr ⟨tcm_28 w h, hg⟩
def tcd_29 : List Cond := tcd_28.drop 24
theorem tcm_29 : ∀ w ∈ tcd_29, w ∈ lw_tbl := fun w h => tcm_28 w (List.mem_of_mem_drop h)
theorem tch_29 {w : Cond} (h : w ∈ tcd_29) (hg : goodWord w = true) : w ∈ WG := List.mem_filter.mpr ⟨tcm_29 w h, hg⟩
def tcd_30 : List Cond := tables_1_4.drop 0
theorem tcm_30 : ∀ w ∈ tcd_30, w ∈ lw_tbl := fun w h => tcj_3 w (List.mem_of_mem_drop h)
theorem tch_30 {w : Cond} (h : w ∈ tcd_30) (hg : goodWord w = true) : w ∈ WG := List.mem_filter.mpr ⟨tcm_30 w h, hg⟩
def tcd_31 : List Cond := tcd_30.drop 24
theorem tcm_31 : ∀ w ∈ tcd_31, w ∈ lw_tbl := fun w h => tcm_30 w (List.mem_of_mem_drop h)
theorem tch_31 {w : Cond} (h : w ∈ tcd_31) (hg : goodWord w = true) : w ∈ WG := List.mem_filter.mpr ⟨tcm_31 w h, hg⟩
def tcd_32 : List Cond := tcd_31.drop 24
theorem tcm_32 : ∀ w ∈ tcd_32, w ∈ lw_tbl := fun w h => tcm_31 w (List.mem_of_mem_drop h)
theorem tch_32 {w : Cond} (h : w ∈ tcd_32) (hg : goodWord w = true) : w ∈ WG := List.mem_filter.mpr ⟨tcm_32 w h, hg⟩
def tcd_33 : List Cond := tcd_32.drop 24
theorem tcm_33 : ∀ w ∈ tcd_33, w ∈ lw_tbl := fun w h => tcm_32 w (List.mem_of_mem_drop h)
theorem tch_33 {w : Cond} (h : w ∈ tcd_33) (hg : goodWord w = true) : w ∈ WG := List.mem_filter.mpr ⟨tcm_33 w h, hg⟩
def tcd_34 : List Cond := tcd_33.drop 24
theorem tcm_34 : ∀ w ∈ tcd_34, w ∈ lw_tbl := fun w h => tcm_33 w (List.mem_of_mem_drop h)
theorem tch_34 {w : Cond} (h : w ∈ tcd_34) (hg : goodWord w = true) : w ∈ WG := List.mem_filter.mpr ⟨tcm_34 w h, hg⟩
def tcd_35 : List Cond := tcd_34.drop 24
theorem tcm_35 : ∀ w ∈ tcd_35, w ∈ lw_tbl := fun w h => tcm_34 w (List.mem_of_mem_drop h)
theorem tch_35 {w : Cond} (h : w ∈ tcd_35) (hg : goodWord w = true) : w ∈ WG := List.mem_filter.mpr ⟨tcm_35 w h, hg⟩
def tcd_36 : List Cond := tcd_35.drop 24
theorem tcm_36 : ∀ w ∈ tcd_36, w ∈ lw_tbl := fun w h => tcm_35 w (List.mem_of_mem_drop h)
theorem tch_36 {w : Cond} (h : w ∈ tcd_36) (hg : goodWord w = true) : w ∈ WG := List.mem_filter.mpr ⟨tcm_36 w h, hg⟩
def tcd_37 : List Cond := tcd_36.drop 24
theorem tcm_37 : ∀ w ∈ tcd_37, w ∈ lw_tbl := fun w h => tcm_36 w (List.mem_of_mem_drop h)
theorem tch_37 {w : Cond} (h : w ∈ tcd_37) (hg : goodWord w = true) : w ∈ WG := List.mem_filter.mpr ⟨tcm_37 w h, hg⟩
def tcd_38 : List Cond := tcd_37.drop 24
theorem tcm_38 : ∀ w ∈ tcd_38, w ∈ lw_tbl := fun w h => tcm_37 w (List.mem_of_mem_drop h)
theorem tch_38 {w : Cond} (h : w ∈ tcd_38) (hg : goodWord w = true) : w ∈ WG := List.mem_filter.mpr ⟨tcm_38 w h, hg⟩
def tcd_39 : List Cond := tcd_38.drop 24
theorem tcm_39 : ∀ w ∈ tcd_39, w ∈ lw_tbl := fun w h => tcm_38 w (List.mem_of_mem_drop h)
theorem tch_39 {w : Cond} (h : w ∈ tcd_39) (hg : goodWord w = true) : w ∈ WG := List.mem_filter.mpr ⟨tcm_39 w h, hg⟩
def tcd_40 : List Cond := tables_1_5.drop 0
theorem tcm_40 : ∀ w ∈ tcd_40, w ∈ lw_tbl := fun w h => tcj_4 w (List.mem_of_mem_drop h)
theorem tch_40 {w : Cond} (h : w ∈ tcd_40) (hg : goodWord w = true) : w ∈ WG := List.mem_filter.mpr ⟨tcm_40 w h, hg⟩
def tcd_41 : List Cond := tcd_40.drop 24
theorem tcm_41 : ∀ w ∈ tcd_41, w ∈ lw_tbl := fun w h => tcm_40 w (List.mem_of_mem_drop h)
theorem tch_41 {w : Cond} (h : w ∈ tcd_41) (hg : goodWord w = true) : w ∈ WG := List.mem_filter.mpr ⟨tcm_41 w h, hg⟩
def tcd_42 : List Cond := tcd_41.drop 24
theorem tcm_42 : ∀ w ∈ tcd_42, w ∈ lw_tbl := fun w h => tcm_41 w (List.mem_of_mem_drop h)
theorem tch_42 {w : Cond} (h : w ∈ tcd_42) (hg : goodWord w = true) : w ∈ WG := List.mem_filter.mpr ⟨tcm_42 w h, hg⟩
def tcd_43 : List Cond := tcd_42.drop 24
theorem tcm_43 : ∀ w ∈ tcd_43, w ∈ lw_tbl := fun w h => tcm_42 w (List.mem_of_mem_drop h)
theorem tch_43 {w : Cond} (h : w ∈ tcd_43) (hg : goodWord w = true) : w ∈ WG := List.mem_filter.mpr ⟨tcm_43 w h, hg⟩
def tcd_44 : List Cond := tcd_43.drop 24
theorem tcm_44 : ∀ w ∈ tcd_44, w ∈ lw_tbl := fun w h => tcm_43 w (List.mem_of_mem_drop h)
theorem tch_44 {w : Cond} (h : w ∈ tcd_44) (hg : goodWord w = true) : w ∈ WG := List.mem_filter.mpr ⟨tcm_44 w h, hg⟩
def tcd_45 : List Cond := tcd_44.drop 24
theorem tcm_45 : ∀ w ∈ tcd_45, w ∈ lw_tbl := fun w h => tcm_44 w (List.mem_of_mem_drop h)
theorem tch_45 {w : Cond} (h : w ∈ tcd_45) (hg : goodWord w = true) : w ∈ WG := List.mem_filter.mpr ⟨tcm_45 w h, hg⟩
def tcd_46 : List Cond := tcd_45.drop 24
theorem tcm_46 : ∀ w ∈ tcd_46, w ∈ lw_tbl := fun w h => tcm_45 w (List.mem_of_mem_drop h)
theorem tch_46 {w : Cond} (h : w ∈ tcd_46) (hg : goodWord w = true) : w ∈ WG := List.mem_filter.mpr ⟨tcm_46 w h, hg⟩
def tcd_47 : List Cond := tcd_46.drop 24
theorem tcm_47 : ∀ w ∈ tcd_47, w ∈ lw_tbl := fun w h => tcm_46 w (List.mem_of_mem_drop h)
theorem tch_47 {w : Cond} (h : w ∈ tcd_47) (hg : goodWord w = true) : w ∈ WG := List.mem_filter.mpr ⟨tcm_47 w h, hg⟩
def tcd_48 : List Cond := tcd_47.drop 24
theorem tcm_48 : ∀ w ∈ tcd_48, w ∈ lw_tbl := fun w h => tcm_47 w (List.mem_of_mem_drop h)
theorem tch_48 {w : Cond} (h : w ∈ tcd_48) (hg : goodWord w = true) : w ∈ WG := List.mem_filter.mpr ⟨tcm_48 w h, hg⟩
def tcd_49 : List Cond := tcd_48.drop 24
theorem tcm_49 : ∀ w ∈ tcd_49, w ∈ lw_tbl := fun w h => tcm_48 w (List.mem_of_mem_drop h)
theorem tch_49 {w : Cond} (h : w ∈ tcd_49) (hg : goodWord w = true) : w ∈ WG := List.mem_filter.mpr ⟨tcm_49 w h, hg⟩
def tcd_50 : List Cond := tables_1_6.drop 0
theorem tcm_50 : ∀ w ∈ tcd_50, w ∈ lw_tbl := fun w h => tcj_5 w (List.mem_of_mem_drop h)
theorem tch_50 {w : Cond} (h : w ∈ tcd_50) (hg : goodWord w = true) : w ∈ WG := List.mem_filter.mpr ⟨tcm_50 w h, hg⟩
def tcd_51 : List Cond := tcd_50.drop 24
theorem tcm_51 : ∀ w ∈ tcd_51, w ∈ lw_tbl := fun w h => tcm_50 w (List.mem_of_mem_drop h)
theorem tch_51 {w : Cond} (h : w ∈ tcd_51) (hg : goodWord w = true) : w ∈ WG := List.mem_filter.mpr ⟨tcm_51 w h, hg⟩
def tcd_52 : List Cond := tcd_51.drop 24
theorem tcm_52 : ∀ w ∈ tcd_52, w ∈ lw_tbl := fun w h => tcm_51 w (List.mem_of_mem_drop h)
theorem tch_52 {w : Cond} (h : w ∈ tcd_52) (hg : goodWord w = true) : w ∈ WG := List.mem_filter.mpr ⟨tcm_52 w h, hg⟩
def tcd_53 : List Cond := tcd_52.drop 24
theorem tcm_53 : ∀ w ∈ tcd_53, w ∈ lw_tbl := fun w h => tcm_52 w (List.mem_of_mem_drop h)
theorem tch_53 {w : Cond} (h : w ∈ tcd_53) (hg : goodWord w = true) : w ∈ WG := List.mem_filter.mpr ⟨tcm_53 w h, hg⟩
def tcd_54 : List Cond := tcd_53.drop 24
theorem tcm_54 : ∀ w ∈ tcd_54, w ∈ lw_tbl := fun w h => tcm_53 w (List.mem_of_mem_drop h)
theorem tch_54 {w : Cond} (h : w ∈ tcd_54) (hg : goodWord w = true) : w ∈ WG := List.mem_filter.mpr ⟨tcm_54 w h, hg⟩
def tcd_55 : List Cond := tcd_54.drop 24
theorem tcm_55 : ∀ w ∈ tcd_55, w ∈ lw_tbl := fun w h => tcm_54 w (List.mem_of_mem_drop h)
theorem tch_55 {w : Cond} (h : w ∈ tcd_55) (hg : goodWord w = true) : w ∈ WG := List.mem_filter.mpr ⟨tcm_55 w h, hg⟩
def tcd_56 : List Cond := tcd_55.drop 24
theorem tcm_56 : ∀ w ∈ tcd_56, w ∈ lw_tbl := fun w h => tcm_55 w (List.mem_of_mem_drop h)
theorem tch_56 {w : Cond} (h : w ∈ tcd_56) (hg : goodWord w = true) : w ∈ WG := List.mem_filter.mpr ⟨tcm_56 w h, hg⟩
def tcd_57 : List Cond := tcd_56.drop 24
theorem tcm_57 : ∀ w ∈ tcd_57, w ∈ lw_tbl := fun w h => tcm_56 w (List.mem_of_mem_drop h)
theorem tch_57 {w : Cond} (h : w ∈ tcd_57) (hg : goodWord w = true) : w ∈ WG := List.mem_filter.mpr ⟨tcm_57 w h, hg⟩
def tcd_58 : List Cond := tcd_57.drop 24
theorem tcm_58 : ∀ w ∈ tcd_58, w ∈ lw_tbl := fun w h => tcm_57 w (List.mem_of_mem_drop h)
theorem tch_58 {w : Cond} (h : w ∈ tcd_58) (hg : goodWord w = true) : w ∈ WG := List.mem_filter.mpr ⟨tcm_58 w h, hg⟩
def tcd_59 : List Cond := tcd_58.drop 24
theorem tcm_59 : ∀ w ∈ tcd_59, w ∈ lw_tbl := fun w h => tcm_58 w (List.mem_of_mem_drop h)
theorem tch_59 {w : Cond} (h : w ∈ tcd_59) (hg : goodWord w = true) : w ∈ WG := List.mem_filter.mpr ⟨tcm_59 w h, hg⟩
def tcd_60 : List Cond := tables_1_7.drop 0
theorem tcm_60 : ∀ w ∈ tcd_60, w ∈ lw_tbl := fun w h => tcj_6 w (List.mem_of_mem_drop h)
theorem tch_60 {w : Cond} (h : w ∈ tcd_60) (hg : goodWord w = true) : w ∈ WG := List.mem_filter.mpr ⟨tcm_60 w h, hg⟩
def tcd_61 : List Cond := tcd_60.drop 24
theorem tcm_61 : ∀ w ∈ tcd_61, w ∈ lw_tbl := fun w h => tcm_60 w (List.mem_of_mem_drop h)
theorem tch_61 {w : Cond} (h : w ∈ tcd_61) (hg : goodWord w = true) : w ∈ WG := List.mem_filter.mpr ⟨tcm_61 w h, hg⟩
def tcd_62 : List Cond := tcd_61.drop 24
theorem tcm_62 : ∀ w ∈ tcd_62, w ∈ lw_tbl := fun w h => tcm_61 w (List.mem_of_mem_drop h)
theorem tch_62 {w : Cond} (h : w ∈ tcd_62) (hg : goodWord w = true) : w ∈ WG := List.mem_filter.mpr ⟨tcm_62 w h, hg⟩
def tcd_63 : List Cond := tcd_62.drop 24
theorem tcm_63 : ∀ w ∈ tcd_63, w ∈ lw_tbl := fun w h => tcm_62 w (List.mem_of_mem_drop h)
theorem tch_63 {w : Cond} (h : w ∈ tcd_63) (hg : goodWord w = true) : w ∈ WG := List.mem_filter.mpr ⟨tcm_63 w h, hg⟩
def tcd_64 : List Cond := tcd_63.drop 24
theorem tcm_64 : ∀ w ∈ tcd_64, w ∈ lw_tbl := fun w h => tcm_63 w (List.mem_of_mem_drop h)
theorem tch_64 {w : Cond} (h : w ∈ tcd_64) (hg : goodWord w = true) : w ∈ WG := List.mem_filter.mpr ⟨tcm_64 w h, hg⟩
def tcd_65 : List Cond := tcd_64.drop 24
theorem tcm_65 : ∀ w ∈ tcd_65, w ∈ lw_tbl := fun w h => tcm_64 w (List.mem_of_mem_drop h)
theorem tch_65 {w : Cond} (h : w ∈ tcd_65) (hg : goodWord w = true) : w ∈ WG := List.mem_filter.mpr ⟨tcm_65 w h, hg⟩
def tcd_66 : List Cond := tcd_65.drop 24
theorem tcm_66 : ∀ w ∈ tcd_66, w ∈ lw_tbl := fun w h => tcm_65 w (List.mem_of_mem_drop h)
theorem tch_66 {w : Cond} (h : w ∈ tcd_66) (hg : goodWord w = true) : w ∈ WG := List.mem_filter.mpr ⟨tcm_66 w h, hg⟩
def tcd_67 : List Cond := tcd_66.drop 24
theorem tcm_67 : ∀ w ∈ tcd_67, w ∈ lw_tbl := fun w h => tcm_66 w (List.mem_of_mem_drop h)
theorem tch_67 {w : Cond} (h : w ∈ tcd_67) (hg : goodWord w = true) : w ∈ WG := List.mem_filter.mpr ⟨tcm_67 w h, hg⟩
def tcd_68 : List Cond := tcd_67.drop 24
theorem tcm_68 : ∀ w ∈ tcd_68, w ∈ lw_tbl := fun w h => tcm_67 w (List.mem_of_mem_drop h)
theorem tch_68 {w : Cond} (h : w ∈ tcd_68) (hg : goodWord w = true) : w ∈ WG := List.mem_filter.mpr ⟨tcm_68 w h, hg⟩
def tcd_69 : List Cond := tcd_68.drop 24
theorem tcm_69 : ∀ w ∈ tcd_69, w ∈ lw_tbl := fun w h => tcm_68 w (List.mem_of_mem_drop h)
theorem tch_69 {w : Cond} (h : w ∈ tcd_69) (hg : goodWord w = true) : w ∈ WG := List.mem_filter.mpr ⟨tcm_69 w h, hg⟩
def tcd_70 : List Cond := tables_1_8.drop 0
theorem tcm_70 : ∀ w ∈ tcd_70, w ∈ lw_tbl := fun w h => tcj_7 w (List.mem_of_mem_drop h)
theorem tch_70 {w : Cond} (h : w ∈ tcd_70) (hg : goodWord w = true) : w ∈ WG := List.mem_filter.mpr ⟨tcm_70 w h, hg⟩
def tcd_71 : List Cond := tcd_70.drop 24
theorem tcm_71 : ∀ w ∈ tcd_71, w ∈ lw_tbl := fun w h => tcm_70 w (List.mem_of_mem_drop h)
theorem tch_71 {w : Cond} (h : w ∈ tcd_71) (hg : goodWord w = true) : w ∈ WG := List.mem_filter.mpr ⟨tcm_71 w h, hg⟩
def tcd_72 : List Cond := tcd_71.drop 24
theorem tcm_72 : ∀ w ∈ tcd_72, w ∈ lw_tbl := fun w h => tcm_71 w (List.mem_of_mem_drop h)
theorem tch_72 {w : Cond} (h : w ∈ tcd_72) (hg : goodWord w = true) : w ∈ WG := List.mem_filter.mpr ⟨tcm_72 w h, hg⟩
def tcd_73 : List Cond := tcd_72.drop 24
theorem tcm_73 : ∀ w ∈ tcd_73, w ∈ lw_tbl := fun w h => tcm_72 w (List.mem_of_mem_drop h)
theorem tch_73 {w : Cond} (h : w ∈ tcd_73) (hg : goodWord w = true) : w ∈ WG := List.mem_filter.mpr ⟨tcm_73 w h, hg⟩
theorem wn_L : Cond.initialized RL ∈ WG := tch_0 (List.mem_of_getElem? (i := 0) rfl) rfl
theorem wn_X11 : Cond.initialized RX11 ∈ WG := tch_0 (List.mem_of_getElem? (i := 1) rfl) rfl
theorem wn_X3 : Cond.initialized RX3 ∈ WG := tch_0 (List.mem_of_getElem? (i := 2) rfl) rfl
theorem wn_X5 : Cond.initialized RX5 ∈ WG := tch_0 (List.mem_of_getElem? (i := 3) rfl) rfl
theorem wn_X4 : Cond.initialized RX4 ∈ WG := tch_0 (List.mem_of_getElem? (i := 4) rfl) rfl
theorem wn_X8 : Cond.initialized RX8 ∈ WG := tch_0 (List.mem_of_getElem? (i := 5) rfl) rfl
theorem wn_X1 : Cond.initialized RX1 ∈ WG := tch_0 (List.mem_of_getElem? (i := 6) rfl) rfl
theorem wn_X9 : Cond.initialized RX9 ∈ WG := tch_0 (List.mem_of_getElem? (i := 7) rfl) rfl
theorem wn_X0 : Cond.initialized RX0 ∈ WG := tch_0 (List.mem_of_getElem? (i := 8) rfl) rfl
theorem wn_X6 : Cond.initialized RX6 ∈ WG := tch_0 (List.mem_of_getElem? (i := 9) rfl) rfl
theorem wn_X2 : Cond.initialized RX2 ∈ WG := tch_0 (List.mem_of_getElem? (i := 10) rfl) rfl
theorem wn_X10 : Cond.initialized RX10 ∈ WG := tch_0 (List.mem_of_getElem? (i := 11) rfl) rfl
theorem wn_X7 : Cond.initialized RX7 ∈ WG := tch_0 (List.mem_of_getElem? (i := 12) rfl) rfl
theorem wn_X12 : Cond.initialized RX12 ∈ WG := tch_0 (List.mem_of_getElem? (i := 13) rfl) rfl
theorem wn_J7 : Cond.initialized RJ7 ∈ WG := tch_0 (List.mem_of_getElem? (i := 14) rfl) rfl
theorem wn_J9 : Cond.initialized RJ9 ∈ WG := tch_0 (List.mem_of_getElem? (i := 15) rfl) rfl
theorem wn_J0 : Cond.initialized RJ0 ∈ WG := tch_0 (List.mem_of_getElem? (i := 16) rfl) rfl
theorem wn_J1 : Cond.initialized RJ1 ∈ WG := tch_0 (List.mem_of_getElem? (i := 17) rfl) rfl
theorem wn_J2 : Cond.initialized RJ2 ∈ WG := tch_0 (List.mem_of_getElem? (i := 18) rfl) rfl
theorem wn_J3 : Cond.initialized RJ3 ∈ WG := tch_0 (List.mem_of_getElem? (i := 19) rfl) rfl
theorem wn_J11 : Cond.initialized RJ11 ∈ WG := tch_0 (List.mem_of_getElem? (i := 20) rfl) rfl
theorem wn_J10 : Cond.initialized RJ10 ∈ WG := tch_0 (List.mem_of_getElem? (i := 21) rfl) rfl
theorem wn_J6 : Cond.initialized RJ6 ∈ WG := tch_0 (List.mem_of_getElem? (i := 22) rfl) rfl
theorem wk_L_7 : Cond.classLink RL 7 RX11 ∈ WG := tch_0 (List.mem_of_getElem? (i := 23) rfl) rfl
theorem wt_X11 : Cond.instantiable RX11 12 ∈ WG := tch_1 (List.mem_of_getElem? (i := 0) rfl) rfl
theorem wl_L_9 : Cond.methodLink RL 9 yX11_init ∈ WG := tch_1 (List.mem_of_getElem? (i := 1) rfl) rfl
theorem wi_yX11_init : Cond.instanceMethod yX11_init ∈ WG := tch_1 (List.mem_of_getElem? (i := 2) rfl) rfl
theorem wm_yX11_init : Cond.code yX11_init cX11_init 1 none ∈ WG := tch_1 (List.mem_of_getElem? (i := 3) rfl) rfl
theorem wl_X11_1 : Cond.methodLink RX11 1 objectInit ∈ WG := tch_1 (List.mem_of_getElem? (i := 4) rfl) rfl
theorem wi_objectInit : Cond.instanceMethod objectInit ∈ WG := tch_1 (List.mem_of_getElem? (i := 5) rfl) rfl
theorem wm_objectInit : Cond.code objectInit ⟨#[0xb1]⟩ 1 none ∈ WG := tch_1 (List.mem_of_getElem? (i := 6) rfl) rfl
theorem wk_X11_7 : Cond.classLink RX11 7 RX3 ∈ WG := tch_1 (List.mem_of_getElem? (i := 7) rfl) rfl
theorem wt_X3 : Cond.instantiable RX3 8 ∈ WG := tch_1 (List.mem_of_getElem? (i := 8) rfl) rfl
theorem wl_X11_9 : Cond.methodLink RX11 9 yX3_init ∈ WG := tch_1 (List.mem_of_getElem? (i := 9) rfl) rfl
theorem wi_yX3_init : Cond.instanceMethod yX3_init ∈ WG := tch_1 (List.mem_of_getElem? (i := 10) rfl) rfl
theorem wm_yX3_init : Cond.code yX3_init cX3_init 2 none ∈ WG := tch_1 (List.mem_of_getElem? (i := 11) rfl) rfl
theorem wl_X3_3 : Cond.methodLink RX3 3 objectInit ∈ WG := tch_1 (List.mem_of_getElem? (i := 12) rfl) rfl
theorem wk_X3_9 : Cond.classLink RX3 9 RX5 ∈ WG := tch_1 (List.mem_of_getElem? (i := 13) rfl) rfl
theorem wk_X3_17 : Cond.classLink RX3 17 RX4 ∈ WG := tch_1 (List.mem_of_getElem? (i := 15) rfl) rfl
theorem wt_X5 : Cond.instantiable RX5 9 ∈ WG := tch_1 (List.mem_of_getElem? (i := 17) rfl) rfl
theorem wi_yX5_init : Cond.instanceMethod yX5_init ∈ WG := tch_1 (List.mem_of_getElem? (i := 19) rfl) rfl
theorem wm_yX5_init : Cond.code yX5_init cX5_init 1 none ∈ WG := tch_1 (List.mem_of_getElem? (i := 20) rfl) rfl
theorem wl_X5_3 : Cond.methodLink RX5 3 objectInit ∈ WG := tch_1 (List.mem_of_getElem? (i := 21) rfl) rfl
theorem wf_X5_19 : Cond.fieldLink RX5 19 (TX5 0).1 (TX5 0).2.1 (TX5 0).2.2.1 ∈ WG := tch_1 (List.mem_of_getElem? (i := 22) rfl) rfl
theorem wf_X3_59 : Cond.fieldLink RX3 59 (TX5 0).1 (TX5 0).2.1 (TX5 0).2.2.1 ∈ WG := tch_1 (List.mem_of_getElem? (i := 23) rfl) rfl
theorem wf_X5_23 : Cond.fieldLink RX5 23 (TX5 1).1 (TX5 1).2.1 (TX5 1).2.2.1 ∈ WG := tch_2 (List.mem_of_getElem? (i := 0) rfl) rfl
theorem wf_X2_41 : Cond.fieldLink RX2 41 (TX5 1).1 (TX5 1).2.1 (TX5 1).2.2.1 ∈ WG := tch_2 (List.mem_of_getElem? (i := 1) rfl) rfl
theorem wf_X0_28 : Cond.fieldLink RX0 28 (TX5 1).1 (TX5 1).2.1 (TX5 1).2.2.1 ∈ WG := tch_2 (List.mem_of_getElem? (i := 2) rfl) rfl
theorem wf_X11_174 : Cond.fieldLink RX11 174 (TX5 1).1 (TX5 1).2.1 (TX5 1).2.2.1 ∈ WG := tch_2 (List.mem_of_getElem? (i := 3) rfl) rfl
theorem wf_X5_26 : Cond.fieldLink RX5 26 (TX5 2).1 (TX5 2).2.1 (TX5 2).2.2.1 ∈ WG := tch_2 (List.mem_of_getElem? (i := 4) rfl) rfl
theorem wf_X2_47 : Cond.fieldLink RX2 47 (TX5 2).1 (TX5 2).2.1 (TX5 2).2.2.1 ∈ WG := tch_2 (List.mem_of_getElem? (i := 5) rfl) rfl
theorem wf_X0_34 : Cond.fieldLink RX0 34 (TX5 2).1 (TX5 2).2.1 (TX5 2).2.2.1 ∈ WG := tch_2 (List.mem_of_getElem? (i := 6) rfl) rfl
theorem wf_X10_66 : Cond.fieldLink RX10 66 (TX5 2).1 (TX5 2).2.1 (TX5 2).2.2.1 ∈ WG := tch_2 (List.mem_of_getElem? (i := 7) rfl) rfl
theorem wf_X11_110 : Cond.fieldLink RX11 110 (TX5 2).1 (TX5 2).2.1 (TX5 2).2.2.1 ∈ WG := tch_2 (List.mem_of_getElem? (i := 8) rfl) rfl
theorem wf_X5_29 : Cond.fieldLink RX5 29 (TX5 3).1 (TX5 3).2.1 (TX5 3).2.2.1 ∈ WG := tch_2 (List.mem_of_getElem? (i := 9) rfl) rfl
theorem wf_X2_51 : Cond.fieldLink RX2 51 (TX5 3).1 (TX5 3).2.1 (TX5 3).2.2.1 ∈ WG := tch_2 (List.mem_of_getElem? (i := 10) rfl) rfl
theorem wf_X11_177 : Cond.fieldLink RX11 177 (TX5 3).1 (TX5 3).2.1 (TX5 3).2.2.1 ∈ WG := tch_2 (List.mem_of_getElem? (i := 11) rfl) rfl
theorem wf_X5_32 : Cond.fieldLink RX5 32 (TX5 4).1 (TX5 4).2.1 (TX5 4).2.2.1 ∈ WG := tch_2 (List.mem_of_getElem? (i := 12) rfl) rfl
theorem wf_X2_55 : Cond.fieldLink RX2 55 (TX5 4).1 (TX5 4).2.1 (TX5 4).2.2.1 ∈ WG := tch_2 (List.mem_of_getElem? (i := 13) rfl) rfl
theorem wf_X0_40 : Cond.fieldLink RX0 40 (TX5 4).1 (TX5 4).2.1 (TX5 4).2.2.1 ∈ WG := tch_2 (List.mem_of_getElem? (i := 14) rfl) rfl
theorem wf_X11_180 : Cond.fieldLink RX11 180 (TX5 4).1 (TX5 4).2.1 (TX5 4).2.2.1 ∈ WG := tch_2 (List.mem_of_getElem? (i := 15) rfl) rfl
theorem wf_X5_35 : Cond.fieldLink RX5 35 (TX5 5).1 (TX5 5).2.1 (TX5 5).2.2.1 ∈ WG := tch_2 (List.mem_of_getElem? (i := 16) rfl) rfl
theorem wf_X2_58 : Cond.fieldLink RX2 58 (TX5 5).1 (TX5 5).2.1 (TX5 5).2.2.1 ∈ WG := tch_2 (List.mem_of_getElem? (i := 17) rfl) rfl
theorem wf_X0_43 : Cond.fieldLink RX0 43 (TX5 5).1 (TX5 5).2.1 (TX5 5).2.2.1 ∈ WG := tch_2 (List.mem_of_getElem? (i := 18) rfl) rfl
theorem wf_X11_183 : Cond.fieldLink RX11 183 (TX5 5).1 (TX5 5).2.1 (TX5 5).2.2.1 ∈ WG := tch_2 (List.mem_of_getElem? (i := 19) rfl) rfl
theorem wf_X5_38 : Cond.fieldLink RX5 38 (TX5 6).1 (TX5 6).2.1 (TX5 6).2.2.1 ∈ WG := tch_2 (List.mem_of_getElem? (i := 20) rfl) rfl
theorem wf_X11_95 : Cond.fieldLink RX11 95 (TX5 6).1 (TX5 6).2.1 (TX5 6).2.2.1 ∈ WG := tch_2 (List.mem_of_getElem? (i := 21) rfl) rfl
theorem wf_X0_46 : Cond.fieldLink RX0 46 (TX5 6).1 (TX5 6).2.1 (TX5 6).2.2.1 ∈ WG := tch_2 (List.mem_of_getElem? (i := 22) rfl) rfl
theorem wf_X3_108 : Cond.fieldLink RX3 108 (TX5 6).1 (TX5 6).2.1 (TX5 6).2.2.1 ∈ WG := tch_2 (List.mem_of_getElem? (i := 23) rfl) rfl
theorem wf_X5_9 : Cond.fieldLink RX5 9 (TX5 7).1 (TX5 7).2.1 (TX5 7).2.2.1 ∈ WG := tch_3 (List.mem_of_getElem? (i := 0) rfl) rfl
theorem wf_X11_99 : Cond.fieldLink RX11 99 (TX5 7).1 (TX5 7).2.1 (TX5 7).2.2.1 ∈ WG := tch_3 (List.mem_of_getElem? (i := 1) rfl) rfl
theorem wf_X0_50 : Cond.fieldLink RX0 50 (TX5 7).1 (TX5 7).2.1 (TX5 7).2.2.1 ∈ WG := tch_3 (List.mem_of_getElem? (i := 2) rfl) rfl
theorem wf_X3_111 : Cond.fieldLink RX3 111 (TX5 7).1 (TX5 7).2.1 (TX5 7).2.2.1 ∈ WG := tch_3 (List.mem_of_getElem? (i := 3) rfl) rfl
theorem wf_X5_15 : Cond.fieldLink RX5 15 (TX5 8).1 (TX5 8).2.1 (TX5 8).2.2.1 ∈ WG := tch_3 (List.mem_of_getElem? (i := 4) rfl) rfl
theorem wf_X0_37 : Cond.fieldLink RX0 37 (TX5 8).1 (TX5 8).2.1 (TX5 8).2.2.1 ∈ WG := tch_3 (List.mem_of_getElem? (i := 5) rfl) rfl
theorem wf_X11_171 : Cond.fieldLink RX11 171 (TX5 8).1 (TX5 8).2.1 (TX5 8).2.2.1 ∈ WG := tch_3 (List.mem_of_getElem? (i := 6) rfl) rfl
theorem wa_int : Cond.arrayClass .int ∈ WG := tch_4 (List.mem_of_getElem? (i := 2) rfl) rfl
theorem wt_X4 : Cond.instantiable RX4 4 ∈ WG := tch_4 (List.mem_of_getElem? (i := 3) rfl) rfl
theorem wi_yX4_init : Cond.instanceMethod yX4_init ∈ WG := tch_4 (List.mem_of_getElem? (i := 5) rfl) rfl
theorem wm_yX4_init : Cond.code yX4_init cX4_init 1 none ∈ WG := tch_4 (List.mem_of_getElem? (i := 6) rfl) rfl
theorem wl_X4_1 : Cond.methodLink RX4 1 objectInit ∈ WG := tch_4 (List.mem_of_getElem? (i := 7) rfl) rfl
theorem wf_X4_7 : Cond.fieldLink RX4 7 (TX4 0).1 (TX4 0).2.1 (TX4 0).2.2.1 ∈ WG := tch_4 (List.mem_of_getElem? (i := 8) rfl) rfl
theorem wf_X3_42 : Cond.fieldLink RX3 42 (TX4 0).1 (TX4 0).2.1 (TX4 0).2.2.1 ∈ WG := tch_4 (List.mem_of_getElem? (i := 9) rfl) rfl
theorem wf_X4_13 : Cond.fieldLink RX4 13 (TX4 1).1 (TX4 1).2.1 (TX4 1).2.2.1 ∈ WG := tch_4 (List.mem_of_getElem? (i := 10) rfl) rfl
theorem wf_X2_87 : Cond.fieldLink RX2 87 (TX4 1).1 (TX4 1).2.1 (TX4 1).2.2.1 ∈ WG := tch_4 (List.mem_of_getElem? (i := 11) rfl) rfl
theorem wf_X3_46 : Cond.fieldLink RX3 46 (TX4 1).1 (TX4 1).2.1 (TX4 1).2.2.1 ∈ WG := tch_4 (List.mem_of_getElem? (i := 12) rfl) rfl
theorem wf_X1_82 : Cond.fieldLink RX1 82 (TX4 1).1 (TX4 1).2.1 (TX4 1).2.2.1 ∈ WG := tch_4 (List.mem_of_getElem? (i := 13) rfl) rfl
theorem wf_X11_353 : Cond.fieldLink RX11 353 (TX4 1).1 (TX4 1).2.1 (TX4 1).2.2.1 ∈ WG := tch_4 (List.mem_of_getElem? (i := 14) rfl) rfl
theorem wf_X4_17 : Cond.fieldLink RX4 17 (TX4 2).1 (TX4 2).2.1 (TX4 2).2.2.1 ∈ WG := tch_4 (List.mem_of_getElem? (i := 15) rfl) rfl
theorem wf_X3_49 : Cond.fieldLink RX3 49 (TX4 2).1 (TX4 2).2.1 (TX4 2).2.2.1 ∈ WG := tch_4 (List.mem_of_getElem? (i := 16) rfl) rfl
theorem wf_X1_94 : Cond.fieldLink RX1 94 (TX4 2).1 (TX4 2).2.1 (TX4 2).2.2.1 ∈ WG := tch_4 (List.mem_of_getElem? (i := 17) rfl) rfl
theorem wf_X2_150 : Cond.fieldLink RX2 150 (TX4 2).1 (TX4 2).2.1 (TX4 2).2.2.1 ∈ WG := tch_4 (List.mem_of_getElem? (i := 18) rfl) rfl
theorem wf_X11_355 : Cond.fieldLink RX11 355 (TX4 2).1 (TX4 2).2.1 (TX4 2).2.2.1 ∈ WG := tch_4 (List.mem_of_getElem? (i := 19) rfl) rfl
theorem wf_X4_20 : Cond.fieldLink RX4 20 (TX4 3).1 (TX4 3).2.1 (TX4 3).2.2.1 ∈ WG := tch_4 (List.mem_of_getElem? (i := 20) rfl) rfl
theorem wf_X3_52 : Cond.fieldLink RX3 52 (TX4 3).1 (TX4 3).2.1 (TX4 3).2.2.1 ∈ WG := tch_4 (List.mem_of_getElem? (i := 21) rfl) rfl
theorem wf_X1_87 : Cond.fieldLink RX1 87 (TX4 3).1 (TX4 3).2.1 (TX4 3).2.2.1 ∈ WG := tch_4 (List.mem_of_getElem? (i := 22) rfl) rfl
theorem wf_X10_79 : Cond.fieldLink RX10 79 (TX4 3).1 (TX4 3).2.1 (TX4 3).2.2.1 ∈ WG := tch_4 (List.mem_of_getElem? (i := 23) rfl) rfl
theorem wf_X11_150 : Cond.fieldLink RX11 150 (TX4 3).1 (TX4 3).2.1 (TX4 3).2.2.1 ∈ WG := tch_5 (List.mem_of_getElem? (i := 0) rfl) rfl
theorem wf_X3_11 : Cond.fieldLink RX3 11 (TX3 0).1 (TX3 0).2.1 (TX3 0).2.2.1 ∈ WG := tch_5 (List.mem_of_getElem? (i := 10) rfl) rfl
theorem wf_X2_31 : Cond.fieldLink RX2 31 (TX3 0).1 (TX3 0).2.1 (TX3 0).2.2.1 ∈ WG := tch_5 (List.mem_of_getElem? (i := 11) rfl) rfl
theorem wf_X11_78 : Cond.fieldLink RX11 78 (TX3 0).1 (TX3 0).2.1 (TX3 0).2.2.1 ∈ WG := tch_5 (List.mem_of_getElem? (i := 12) rfl) rfl
theorem wf_X1_74 : Cond.fieldLink RX1 74 (TX3 0).1 (TX3 0).2.1 (TX3 0).2.2.1 ∈ WG := tch_5 (List.mem_of_getElem? (i := 13) rfl) rfl
theorem wf_X10_63 : Cond.fieldLink RX10 63 (TX3 0).1 (TX3 0).2.1 (TX3 0).2.2.1 ∈ WG := tch_5 (List.mem_of_getElem? (i := 14) rfl) rfl
theorem wf_X7_61 : Cond.fieldLink RX7 61 (TX3 0).1 (TX3 0).2.1 (TX3 0).2.2.1 ∈ WG := tch_5 (List.mem_of_getElem? (i := 15) rfl) rfl
theorem wf_X3_19 : Cond.fieldLink RX3 19 (TX3 1).1 (TX3 1).2.1 (TX3 1).2.2.1 ∈ WG := tch_5 (List.mem_of_getElem? (i := 16) rfl) rfl
theorem wf_X2_83 : Cond.fieldLink RX2 83 (TX3 1).1 (TX3 1).2.1 (TX3 1).2.2.1 ∈ WG := tch_5 (List.mem_of_getElem? (i := 17) rfl) rfl
theorem wf_X1_57 : Cond.fieldLink RX1 57 (TX3 1).1 (TX3 1).2.1 (TX3 1).2.2.1 ∈ WG := tch_5 (List.mem_of_getElem? (i := 18) rfl) rfl
theorem wf_X10_75 : Cond.fieldLink RX10 75 (TX3 1).1 (TX3 1).2.1 (TX3 1).2.2.1 ∈ WG := tch_5 (List.mem_of_getElem? (i := 19) rfl) rfl
theorem wf_X11_146 : Cond.fieldLink RX11 146 (TX3 1).1 (TX3 1).2.1 (TX3 1).2.2.1 ∈ WG := tch_5 (List.mem_of_getElem? (i := 20) rfl) rfl
theorem wf_X3_36 : Cond.fieldLink RX3 36 (TX3 2).1 (TX3 2).2.1 (TX3 2).2.2.1 ∈ WG := tch_5 (List.mem_of_getElem? (i := 21) rfl) rfl
theorem wf_X1_67 : Cond.fieldLink RX1 67 (TX3 2).1 (TX3 2).2.1 (TX3 2).2.2.1 ∈ WG := tch_5 (List.mem_of_getElem? (i := 22) rfl) rfl
theorem wf_X2_139 : Cond.fieldLink RX2 139 (TX3 2).1 (TX3 2).2.1 (TX3 2).2.2.1 ∈ WG := tch_5 (List.mem_of_getElem? (i := 23) rfl) rfl
theorem wf_X11_358 : Cond.fieldLink RX11 358 (TX3 2).1 (TX3 2).2.1 (TX3 2).2.2.1 ∈ WG := tch_6 (List.mem_of_getElem? (i := 0) rfl) rfl
theorem wf_X3_39 : Cond.fieldLink RX3 39 (TX3 3).1 (TX3 3).2.1 (TX3 3).2.2.1 ∈ WG := tch_6 (List.mem_of_getElem? (i := 1) rfl) rfl
theorem wf_X1_63 : Cond.fieldLink RX1 63 (TX3 3).1 (TX3 3).2.1 (TX3 3).2.2.1 ∈ WG := tch_6 (List.mem_of_getElem? (i := 2) rfl) rfl
theorem wf_X10_92 : Cond.fieldLink RX10 92 (TX3 3).1 (TX3 3).2.1 (TX3 3).2.2.1 ∈ WG := tch_6 (List.mem_of_getElem? (i := 3) rfl) rfl
theorem wf_X7_58 : Cond.fieldLink RX7 58 (TX3 3).1 (TX3 3).2.1 (TX3 3).2.2.1 ∈ WG := tch_6 (List.mem_of_getElem? (i := 4) rfl) rfl
theorem wf_X2_136 : Cond.fieldLink RX2 136 (TX3 3).1 (TX3 3).2.1 (TX3 3).2.2.1 ∈ WG := tch_6 (List.mem_of_getElem? (i := 5) rfl) rfl
theorem wf_X11_296 : Cond.fieldLink RX11 296 (TX3 3).1 (TX3 3).2.1 (TX3 3).2.2.1 ∈ WG := tch_6 (List.mem_of_getElem? (i := 6) rfl) rfl
theorem wf_X3_23 : Cond.fieldLink RX3 23 (TX3 4).1 (TX3 4).2.1 (TX3 4).2.2.1 ∈ WG := tch_6 (List.mem_of_getElem? (i := 7) rfl) rfl
theorem wf_X11_327 : Cond.fieldLink RX11 327 (TX3 4).1 (TX3 4).2.1 (TX3 4).2.2.1 ∈ WG := tch_6 (List.mem_of_getElem? (i := 8) rfl) rfl
theorem wf_X11_136 : Cond.fieldLink RX11 136 (TX3 5).1 (TX3 5).2.1 (TX3 5).2.2.1 ∈ WG := tch_6 (List.mem_of_getElem? (i := 9) rfl) rfl
theorem wf_X3_69 : Cond.fieldLink RX3 69 (TX3 5).1 (TX3 5).2.1 (TX3 5).2.2.1 ∈ WG := tch_6 (List.mem_of_getElem? (i := 10) rfl) rfl
theorem wf_X11_153 : Cond.fieldLink RX11 153 (TX3 6).1 (TX3 6).2.1 (TX3 6).2.2.1 ∈ WG := tch_6 (List.mem_of_getElem? (i := 11) rfl) rfl
theorem wf_X3_70 : Cond.fieldLink RX3 70 (TX3 6).1 (TX3 6).2.1 (TX3 6).2.2.1 ∈ WG := tch_6 (List.mem_of_getElem? (i := 12) rfl) rfl
theorem wf_X11_165 : Cond.fieldLink RX11 165 (TX3 7).1 (TX3 7).2.1 (TX3 7).2.2.1 ∈ WG := tch_6 (List.mem_of_getElem? (i := 13) rfl) rfl
theorem wf_X3_73 : Cond.fieldLink RX3 73 (TX3 7).1 (TX3 7).2.1 (TX3 7).2.2.1 ∈ WG := tch_6 (List.mem_of_getElem? (i := 14) rfl) rfl
theorem wk_X11_22 : Cond.classLink RX11 22 RX8 ∈ WG := tch_7 (List.mem_of_getElem? (i := 8) rfl) rfl
theorem wt_X8 : Cond.instantiable RX8 2 ∈ WG := tch_7 (List.mem_of_getElem? (i := 9) rfl) rfl
theorem wi_yX8_init : Cond.instanceMethod yX8_init ∈ WG := tch_7 (List.mem_of_getElem? (i := 11) rfl) rfl
theorem wm_yX8_init : Cond.code yX8_init cX8_init 1 none ∈ WG := tch_7 (List.mem_of_getElem? (i := 12) rfl) rfl
theorem wl_X8_3 : Cond.methodLink RX8 3 objectInit ∈ WG := tch_7 (List.mem_of_getElem? (i := 13) rfl) rfl
theorem wf_X8_11 : Cond.fieldLink RX8 11 (TX8 0).1 (TX8 0).2.1 (TX8 0).2.2.1 ∈ WG := tch_7 (List.mem_of_getElem? (i := 14) rfl) rfl
theorem wf_X8_15 : Cond.fieldLink RX8 15 (TX8 1).1 (TX8 1).2.1 (TX8 1).2.2.1 ∈ WG := tch_7 (List.mem_of_getElem? (i := 15) rfl) rfl
theorem wf_X11_120 : Cond.fieldLink RX11 120 (TX8 1).1 (TX8 1).2.1 (TX8 1).2.2.1 ∈ WG := tch_7 (List.mem_of_getElem? (i := 16) rfl) rfl
theorem wk_X11_29 : Cond.classLink RX11 29 RX1 ∈ WG := tch_7 (List.mem_of_getElem? (i := 22) rfl) rfl
theorem wt_X1 : Cond.instantiable RX1 6 ∈ WG := tch_7 (List.mem_of_getElem? (i := 23) rfl) rfl
theorem wl_X11_31 : Cond.methodLink RX11 31 yX1_init ∈ WG := tch_8 (List.mem_of_getElem? (i := 0) rfl) rfl
theorem wi_yX1_init : Cond.instanceMethod yX1_init ∈ WG := tch_8 (List.mem_of_getElem? (i := 1) rfl) rfl
theorem wm_yX1_init : Cond.code yX1_init cX1_init 3 none ∈ WG := tch_8 (List.mem_of_getElem? (i := 2) rfl) rfl
theorem wl_X1_3 : Cond.methodLink RX1 3 objectInit ∈ WG := tch_8 (List.mem_of_getElem? (i := 3) rfl) rfl
theorem wk_X1_9 : Cond.classLink RX1 9 RX9 ∈ WG := tch_8 (List.mem_of_getElem? (i := 4) rfl) rfl
theorem wt_X9 : Cond.instantiable RX9 6 ∈ WG := tch_8 (List.mem_of_getElem? (i := 5) rfl) rfl
theorem wi_yX9_init : Cond.instanceMethod yX9_init ∈ WG := tch_8 (List.mem_of_getElem? (i := 7) rfl) rfl
theorem wm_yX9_init : Cond.code yX9_init cX9_init 1 none ∈ WG := tch_8 (List.mem_of_getElem? (i := 8) rfl) rfl
theorem wl_X9_1 : Cond.methodLink RX9 1 objectInit ∈ WG := tch_8 (List.mem_of_getElem? (i := 9) rfl) rfl
theorem wf_X9_9 : Cond.fieldLink RX9 9 (TX9 0).1 (TX9 0).2.1 (TX9 0).2.2.1 ∈ WG := tch_8 (List.mem_of_getElem? (i := 10) rfl) rfl
theorem wf_X0_93 : Cond.fieldLink RX0 93 (TX9 0).1 (TX9 0).2.1 (TX9 0).2.2.1 ∈ WG := tch_8 (List.mem_of_getElem? (i := 11) rfl) rfl
theorem wf_X9_23 : Cond.fieldLink RX9 23 (TX9 1).1 (TX9 1).2.1 (TX9 1).2.2.1 ∈ WG := tch_8 (List.mem_of_getElem? (i := 12) rfl) rfl
theorem wf_X0_90 : Cond.fieldLink RX0 90 (TX9 1).1 (TX9 1).2.1 (TX9 1).2.2.1 ∈ WG := tch_8 (List.mem_of_getElem? (i := 13) rfl) rfl
theorem wf_X9_13 : Cond.fieldLink RX9 13 (TX9 2).1 (TX9 2).2.1 (TX9 2).2.2.1 ∈ WG := tch_8 (List.mem_of_getElem? (i := 14) rfl) rfl
theorem wf_X0_62 : Cond.fieldLink RX0 62 (TX9 2).1 (TX9 2).2.1 (TX9 2).2.2.1 ∈ WG := tch_8 (List.mem_of_getElem? (i := 15) rfl) rfl
theorem wf_X9_17 : Cond.fieldLink RX9 17 (TX9 3).1 (TX9 3).2.1 (TX9 3).2.2.1 ∈ WG := tch_8 (List.mem_of_getElem? (i := 16) rfl) rfl
theorem wf_X0_68 : Cond.fieldLink RX0 68 (TX9 3).1 (TX9 3).2.1 (TX9 3).2.2.1 ∈ WG := tch_8 (List.mem_of_getElem? (i := 17) rfl) rfl
theorem wf_X9_20 : Cond.fieldLink RX9 20 (TX9 4).1 (TX9 4).2.1 (TX9 4).2.2.1 ∈ WG := tch_8 (List.mem_of_getElem? (i := 18) rfl) rfl
theorem wf_X0_65 : Cond.fieldLink RX0 65 (TX9 4).1 (TX9 4).2.1 (TX9 4).2.2.1 ∈ WG := tch_8 (List.mem_of_getElem? (i := 19) rfl) rfl
theorem wf_X9_27 : Cond.fieldLink RX9 27 (TX9 5).1 (TX9 5).2.1 (TX9 5).2.2.1 ∈ WG := tch_8 (List.mem_of_getElem? (i := 20) rfl) rfl
theorem wf_X6_42 : Cond.fieldLink RX6 42 (TX9 5).1 (TX9 5).2.1 (TX9 5).2.2.1 ∈ WG := tch_8 (List.mem_of_getElem? (i := 21) rfl) rfl
theorem wf_X0_57 : Cond.fieldLink RX0 57 (TX9 5).1 (TX9 5).2.1 (TX9 5).2.2.1 ∈ WG := tch_8 (List.mem_of_getElem? (i := 22) rfl) rfl
theorem wf_X11_340 : Cond.fieldLink RX11 340 (TX9 5).1 (TX9 5).2.1 (TX9 5).2.2.1 ∈ WG := tch_8 (List.mem_of_getElem? (i := 23) rfl) rfl
theorem wa_char : Cond.arrayClass .char ∈ WG := tch_9 (List.mem_of_getElem? (i := 13) rfl) rfl
theorem wk_X1_29 : Cond.classLink RX1 29 RX0 ∈ WG := tch_9 (List.mem_of_getElem? (i := 15) rfl) rfl
theorem wt_X0 : Cond.instantiable RX0 4 ∈ WG := tch_9 (List.mem_of_getElem? (i := 16) rfl) rfl
theorem wi_yX0_init : Cond.instanceMethod yX0_init ∈ WG := tch_9 (List.mem_of_getElem? (i := 18) rfl) rfl
theorem wm_yX0_init : Cond.code yX0_init cX0_init 1 none ∈ WG := tch_9 (List.mem_of_getElem? (i := 19) rfl) rfl
theorem wl_X0_3 : Cond.methodLink RX0 3 objectInit ∈ WG := tch_9 (List.mem_of_getElem? (i := 20) rfl) rfl
theorem wf_X0_9 : Cond.fieldLink RX0 9 (TX0 0).1 (TX0 0).2.1 (TX0 0).2.2.1 ∈ WG := tch_9 (List.mem_of_getElem? (i := 21) rfl) rfl
theorem wf_X0_15 : Cond.fieldLink RX0 15 (TX0 1).1 (TX0 1).2.1 (TX0 1).2.2.1 ∈ WG := tch_9 (List.mem_of_getElem? (i := 22) rfl) rfl
theorem wf_X0_84 : Cond.fieldLink RX0 84 (TX0 2).1 (TX0 2).2.1 (TX0 2).2.2.1 ∈ WG := tch_9 (List.mem_of_getElem? (i := 23) rfl) rfl
theorem wf_X0_87 : Cond.fieldLink RX0 87 (TX0 3).1 (TX0 3).2.1 (TX0 3).2.2.1 ∈ WG := tch_10 (List.mem_of_getElem? (i := 0) rfl) rfl
theorem wk_X1_36 : Cond.classLink RX1 36 RX6 ∈ WG := tch_10 (List.mem_of_getElem? (i := 10) rfl) rfl
theorem wt_X6 : Cond.instantiable RX6 6 ∈ WG := tch_10 (List.mem_of_getElem? (i := 11) rfl) rfl
theorem wl_X1_38 : Cond.methodLink RX1 38 yX6_init ∈ WG := tch_10 (List.mem_of_getElem? (i := 12) rfl) rfl
theorem wi_yX6_init : Cond.instanceMethod yX6_init ∈ WG := tch_10 (List.mem_of_getElem? (i := 13) rfl) rfl
theorem wm_yX6_init : Cond.code yX6_init cX6_init 2 none ∈ WG := tch_10 (List.mem_of_getElem? (i := 14) rfl) rfl
theorem wl_X6_3 : Cond.methodLink RX6 3 objectInit ∈ WG := tch_10 (List.mem_of_getElem? (i := 15) rfl) rfl
theorem wk_X6_9 : Cond.classLink RX6 9 RX9 ∈ WG := tch_10 (List.mem_of_getElem? (i := 16) rfl) rfl
theorem wf_X6_18 : Cond.fieldLink RX6 18 (TX6 0).1 (TX6 0).2.1 (TX6 0).2.2.1 ∈ WG := tch_10 (List.mem_of_getElem? (i := 18) rfl) rfl
theorem wf_X6_12 : Cond.fieldLink RX6 12 (TX6 1).1 (TX6 1).2.1 (TX6 1).2.2.1 ∈ WG := tch_10 (List.mem_of_getElem? (i := 19) rfl) rfl
theorem wf_X6_22 : Cond.fieldLink RX6 22 (TX6 2).1 (TX6 2).2.1 (TX6 2).2.2.1 ∈ WG := tch_10 (List.mem_of_getElem? (i := 20) rfl) rfl
theorem wf_X6_26 : Cond.fieldLink RX6 26 (TX6 3).1 (TX6 3).2.1 (TX6 3).2.2.1 ∈ WG := tch_10 (List.mem_of_getElem? (i := 21) rfl) rfl
theorem wf_X6_29 : Cond.fieldLink RX6 29 (TX6 4).1 (TX6 4).2.1 (TX6 4).2.2.1 ∈ WG := tch_10 (List.mem_of_getElem? (i := 22) rfl) rfl
theorem wf_X6_32 : Cond.fieldLink RX6 32 (TX6 5).1 (TX6 5).2.1 (TX6 5).2.2.1 ∈ WG := tch_10 (List.mem_of_getElem? (i := 23) rfl) rfl
theorem wf_X1_12 : Cond.fieldLink RX1 12 (TX1 0).1 (TX1 0).2.1 (TX1 0).2.2.1 ∈ WG := tch_11 (List.mem_of_getElem? (i := 13) rfl) rfl
theorem wf_X2_164 : Cond.fieldLink RX2 164 (TX1 0).1 (TX1 0).2.1 (TX1 0).2.2.1 ∈ WG := tch_11 (List.mem_of_getElem? (i := 14) rfl) rfl
theorem wf_X11_349 : Cond.fieldLink RX11 349 (TX1 0).1 (TX1 0).2.1 (TX1 0).2.2.1 ∈ WG := tch_11 (List.mem_of_getElem? (i := 15) rfl) rfl
theorem wf_X1_18 : Cond.fieldLink RX1 18 (TX1 1).1 (TX1 1).2.1 (TX1 1).2.2.1 ∈ WG := tch_11 (List.mem_of_getElem? (i := 16) rfl) rfl
theorem wf_X2_146 : Cond.fieldLink RX2 146 (TX1 1).1 (TX1 1).2.1 (TX1 1).2.2.1 ∈ WG := tch_11 (List.mem_of_getElem? (i := 17) rfl) rfl
theorem wf_X11_336 : Cond.fieldLink RX11 336 (TX1 1).1 (TX1 1).2.1 (TX1 1).2.2.1 ∈ WG := tch_11 (List.mem_of_getElem? (i := 18) rfl) rfl
theorem wf_X1_22 : Cond.fieldLink RX1 22 (TX1 2).1 (TX1 2).2.1 (TX1 2).2.2.1 ∈ WG := tch_11 (List.mem_of_getElem? (i := 19) rfl) rfl
theorem wf_X11_382 : Cond.fieldLink RX11 382 (TX1 2).1 (TX1 2).2.1 (TX1 2).2.2.1 ∈ WG := tch_11 (List.mem_of_getElem? (i := 20) rfl) rfl
theorem wf_X1_26 : Cond.fieldLink RX1 26 (TX1 3).1 (TX1 3).2.1 (TX1 3).2.2.1 ∈ WG := tch_11 (List.mem_of_getElem? (i := 21) rfl) rfl
theorem wf_X11_379 : Cond.fieldLink RX11 379 (TX1 3).1 (TX1 3).2.1 (TX1 3).2.2.1 ∈ WG := tch_11 (List.mem_of_getElem? (i := 22) rfl) rfl
theorem wf_X1_32 : Cond.fieldLink RX1 32 (TX1 4).1 (TX1 4).2.1 (TX1 4).2.2.1 ∈ WG := tch_11 (List.mem_of_getElem? (i := 23) rfl) rfl
theorem wf_X2_121 : Cond.fieldLink RX2 121 (TX1 4).1 (TX1 4).2.1 (TX1 4).2.2.1 ∈ WG := tch_12 (List.mem_of_getElem? (i := 0) rfl) rfl
theorem wf_X1_41 : Cond.fieldLink RX1 41 (TX1 5).1 (TX1 5).2.1 (TX1 5).2.2.1 ∈ WG := tch_12 (List.mem_of_getElem? (i := 1) rfl) rfl
theorem wk_X11_38 : Cond.classLink RX11 38 RX2 ∈ WG := tch_12 (List.mem_of_getElem? (i := 15) rfl) rfl
theorem wt_X2 : Cond.instantiable RX2 17 ∈ WG := tch_12 (List.mem_of_getElem? (i := 16) rfl) rfl
theorem wi_yX2_init : Cond.instanceMethod yX2_init ∈ WG := tch_12 (List.mem_of_getElem? (i := 18) rfl) rfl
theorem wm_yX2_init : Cond.code yX2_init cX2_init 1 none ∈ WG := tch_12 (List.mem_of_getElem? (i := 19) rfl) rfl
theorem wl_X2_5 : Cond.methodLink RX2 5 objectInit ∈ WG := tch_12 (List.mem_of_getElem? (i := 20) rfl) rfl
theorem wf_X2_11 : Cond.fieldLink RX2 11 (TX2 0).1 (TX2 0).2.1 (TX2 0).2.2.1 ∈ WG := tch_12 (List.mem_of_getElem? (i := 21) rfl) rfl
theorem wf_X2_15 : Cond.fieldLink RX2 15 (TX2 1).1 (TX2 1).2.1 (TX2 1).2.2.1 ∈ WG := tch_12 (List.mem_of_getElem? (i := 22) rfl) rfl
theorem wf_X2_18 : Cond.fieldLink RX2 18 (TX2 2).1 (TX2 2).2.1 (TX2 2).2.2.1 ∈ WG := tch_12 (List.mem_of_getElem? (i := 23) rfl) rfl
theorem wf_X2_22 : Cond.fieldLink RX2 22 (TX2 3).1 (TX2 3).2.1 (TX2 3).2.2.1 ∈ WG := tch_13 (List.mem_of_getElem? (i := 0) rfl) rfl
theorem wf_X2_176 : Cond.fieldLink RX2 176 (TX2 4).1 (TX2 4).2.1 (TX2 4).2.2.1 ∈ WG := tch_13 (List.mem_of_getElem? (i := 1) rfl) rfl
theorem wf_X2_179 : Cond.fieldLink RX2 179 (TX2 5).1 (TX2 5).2.1 (TX2 5).2.2.1 ∈ WG := tch_13 (List.mem_of_getElem? (i := 2) rfl) rfl
theorem wf_X2_25 : Cond.fieldLink RX2 25 (TX2 6).1 (TX2 6).2.1 (TX2 6).2.2.1 ∈ WG := tch_13 (List.mem_of_getElem? (i := 3) rfl) rfl
theorem wf_X11_235 : Cond.fieldLink RX11 235 (TX2 6).1 (TX2 6).2.1 (TX2 6).2.2.1 ∈ WG := tch_13 (List.mem_of_getElem? (i := 4) rfl) rfl
theorem wf_X2_28 : Cond.fieldLink RX2 28 (TX2 7).1 (TX2 7).2.1 (TX2 7).2.2.1 ∈ WG := tch_13 (List.mem_of_getElem? (i := 5) rfl) rfl
theorem wf_X11_219 : Cond.fieldLink RX11 219 (TX2 7).1 (TX2 7).2.1 (TX2 7).2.2.1 ∈ WG := tch_13 (List.mem_of_getElem? (i := 6) rfl) rfl
theorem wf_X2_73 : Cond.fieldLink RX2 73 (TX2 8).1 (TX2 8).2.1 (TX2 8).2.2.1 ∈ WG := tch_13 (List.mem_of_getElem? (i := 7) rfl) rfl
theorem wf_X2_37 : Cond.fieldLink RX2 37 (TX2 9).1 (TX2 9).2.1 (TX2 9).2.2.1 ∈ WG := tch_13 (List.mem_of_getElem? (i := 8) rfl) rfl
theorem wf_X2_46 : Cond.fieldLink RX2 46 (TX2 10).1 (TX2 10).2.1 (TX2 10).2.2.1 ∈ WG := tch_13 (List.mem_of_getElem? (i := 9) rfl) rfl
theorem wf_X11_245 : Cond.fieldLink RX11 245 (TX2 10).1 (TX2 10).2.1 (TX2 10).2.2.1 ∈ WG := tch_13 (List.mem_of_getElem? (i := 10) rfl) rfl
theorem wf_X2_50 : Cond.fieldLink RX2 50 (TX2 11).1 (TX2 11).2.1 (TX2 11).2.2.1 ∈ WG := tch_13 (List.mem_of_getElem? (i := 11) rfl) rfl
theorem wf_X2_65 : Cond.fieldLink RX2 65 (TX2 12).1 (TX2 12).2.1 (TX2 12).2.2.1 ∈ WG := tch_13 (List.mem_of_getElem? (i := 12) rfl) rfl
theorem wf_X2_54 : Cond.fieldLink RX2 54 (TX2 13).1 (TX2 13).2.1 (TX2 13).2.2.1 ∈ WG := tch_13 (List.mem_of_getElem? (i := 13) rfl) rfl
theorem wf_X2_94 : Cond.fieldLink RX2 94 (TX2 14).1 (TX2 14).2.1 (TX2 14).2.2.1 ∈ WG := tch_13 (List.mem_of_getElem? (i := 14) rfl) rfl
theorem wf_X2_76 : Cond.fieldLink RX2 76 (TX2 15).1 (TX2 15).2.1 (TX2 15).2.2.1 ∈ WG := tch_13 (List.mem_of_getElem? (i := 15) rfl) rfl
theorem wf_X2_117 : Cond.fieldLink RX2 117 (TX2 16).1 (TX2 16).2.1 (TX2 16).2.2.1 ∈ WG := tch_13 (List.mem_of_getElem? (i := 16) rfl) rfl
theorem wf_X11_207 : Cond.fieldLink RX11 207 (TX2 16).1 (TX2 16).2.1 (TX2 16).2.2.1 ∈ WG := tch_13 (List.mem_of_getElem? (i := 17) rfl) rfl
theorem wa_long : Cond.arrayClass .long ∈ WG := tch_15 (List.mem_of_getElem? (i := 5) rfl) rfl
theorem wk_X11_45 : Cond.classLink RX11 45 RX10 ∈ WG := tch_15 (List.mem_of_getElem? (i := 6) rfl) rfl
theorem wt_X10 : Cond.instantiable RX10 8 ∈ WG := tch_15 (List.mem_of_getElem? (i := 7) rfl) rfl
theorem wl_X11_47 : Cond.methodLink RX11 47 yX10_init ∈ WG := tch_15 (List.mem_of_getElem? (i := 8) rfl) rfl
theorem wi_yX10_init : Cond.instanceMethod yX10_init ∈ WG := tch_15 (List.mem_of_getElem? (i := 9) rfl) rfl
theorem wm_yX10_init : Cond.code yX10_init cX10_init 2 none ∈ WG := tch_15 (List.mem_of_getElem? (i := 10) rfl) rfl
theorem wl_X10_3 : Cond.methodLink RX10 3 objectInit ∈ WG := tch_15 (List.mem_of_getElem? (i := 11) rfl) rfl
theorem wk_X10_9 : Cond.classLink RX10 9 RX5 ∈ WG := tch_15 (List.mem_of_getElem? (i := 12) rfl) rfl
theorem wf_X10_11 : Cond.fieldLink RX10 11 (TX10 0).1 (TX10 0).2.1 (TX10 0).2.2.1 ∈ WG := tch_15 (List.mem_of_getElem? (i := 14) rfl) rfl
theorem wf_X10_17 : Cond.fieldLink RX10 17 (TX10 1).1 (TX10 1).2.1 (TX10 1).2.2.1 ∈ WG := tch_15 (List.mem_of_getElem? (i := 15) rfl) rfl
theorem wf_X10_21 : Cond.fieldLink RX10 21 (TX10 2).1 (TX10 2).2.1 (TX10 2).2.2.1 ∈ WG := tch_15 (List.mem_of_getElem? (i := 16) rfl) rfl
theorem wf_X10_24 : Cond.fieldLink RX10 24 (TX10 3).1 (TX10 3).2.1 (TX10 3).2.2.1 ∈ WG := tch_15 (List.mem_of_getElem? (i := 17) rfl) rfl
theorem wf_X10_38 : Cond.fieldLink RX10 38 (TX10 4).1 (TX10 4).2.1 (TX10 4).2.2.1 ∈ WG := tch_15 (List.mem_of_getElem? (i := 18) rfl) rfl
theorem wf_X10_28 : Cond.fieldLink RX10 28 (TX10 5).1 (TX10 5).2.1 (TX10 5).2.2.1 ∈ WG := tch_15 (List.mem_of_getElem? (i := 19) rfl) rfl
theorem wf_X10_47 : Cond.fieldLink RX10 47 (TX10 6).1 (TX10 6).2.1 (TX10 6).2.2.1 ∈ WG := tch_15 (List.mem_of_getElem? (i := 20) rfl) rfl
theorem wf_X11_260 : Cond.fieldLink RX11 260 (TX10 6).1 (TX10 6).2.1 (TX10 6).2.2.1 ∈ WG := tch_15 (List.mem_of_getElem? (i := 21) rfl) rfl
theorem wf_X10_54 : Cond.fieldLink RX10 54 (TX10 7).1 (TX10 7).2.1 (TX10 7).2.2.1 ∈ WG := tch_15 (List.mem_of_getElem? (i := 22) rfl) rfl
theorem wf_X11_263 : Cond.fieldLink RX11 263 (TX10 7).1 (TX10 7).2.1 (TX10 7).2.2.1 ∈ WG := tch_15 (List.mem_of_getElem? (i := 23) rfl) rfl
theorem wk_X11_52 : Cond.classLink RX11 52 RX7 ∈ WG := tch_16 (List.mem_of_getElem? (i := 17) rfl) rfl
theorem wt_X7 : Cond.instantiable RX7 2 ∈ WG := tch_16 (List.mem_of_getElem? (i := 18) rfl) rfl
theorem wi_yX7_init : Cond.instanceMethod yX7_init ∈ WG := tch_16 (List.mem_of_getElem? (i := 20) rfl) rfl
theorem wm_yX7_init : Cond.code yX7_init cX7_init 1 none ∈ WG := tch_16 (List.mem_of_getElem? (i := 21) rfl) rfl
theorem wl_X7_5 : Cond.methodLink RX7 5 objectInit ∈ WG := tch_16 (List.mem_of_getElem? (i := 22) rfl) rfl
theorem wf_X7_11 : Cond.fieldLink RX7 11 (TX7 0).1 (TX7 0).2.1 (TX7 0).2.2.1 ∈ WG := tch_16 (List.mem_of_getElem? (i := 23) rfl) rfl
theorem wf_X7_15 : Cond.fieldLink RX7 15 (TX7 1).1 (TX7 1).2.1 (TX7 1).2.2.1 ∈ WG := tch_17 (List.mem_of_getElem? (i := 0) rfl) rfl
theorem wf_X11_303 : Cond.fieldLink RX11 303 (TX7 1).1 (TX7 1).2.1 (TX7 1).2.2.1 ∈ WG := tch_17 (List.mem_of_getElem? (i := 1) rfl) rfl
theorem wf_X11_10 : Cond.fieldLink RX11 10 (TX11 0).1 (TX11 0).2.1 (TX11 0).2.2.1 ∈ WG := tch_17 (List.mem_of_getElem? (i := 7) rfl) rfl
theorem wf_X11_16 : Cond.fieldLink RX11 16 (TX11 1).1 (TX11 1).2.1 (TX11 1).2.2.1 ∈ WG := tch_17 (List.mem_of_getElem? (i := 8) rfl) rfl
theorem wf_X11_19 : Cond.fieldLink RX11 19 (TX11 2).1 (TX11 2).2.1 (TX11 2).2.2.1 ∈ WG := tch_17 (List.mem_of_getElem? (i := 9) rfl) rfl
theorem wf_X11_330 : Cond.fieldLink RX11 330 (TX11 3).1 (TX11 3).2.1 (TX11 3).2.2.1 ∈ WG := tch_17 (List.mem_of_getElem? (i := 10) rfl) rfl
theorem wf_X11_25 : Cond.fieldLink RX11 25 (TX11 4).1 (TX11 4).2.1 (TX11 4).2.2.1 ∈ WG := tch_17 (List.mem_of_getElem? (i := 11) rfl) rfl
theorem wf_X11_34 : Cond.fieldLink RX11 34 (TX11 5).1 (TX11 5).2.1 (TX11 5).2.2.1 ∈ WG := tch_17 (List.mem_of_getElem? (i := 12) rfl) rfl
theorem wf_X11_41 : Cond.fieldLink RX11 41 (TX11 6).1 (TX11 6).2.1 (TX11 6).2.2.1 ∈ WG := tch_17 (List.mem_of_getElem? (i := 13) rfl) rfl
theorem wf_X11_48 : Cond.fieldLink RX11 48 (TX11 7).1 (TX11 7).2.1 (TX11 7).2.2.1 ∈ WG := tch_17 (List.mem_of_getElem? (i := 14) rfl) rfl
theorem wf_X11_55 : Cond.fieldLink RX11 55 (TX11 8).1 (TX11 8).2.1 (TX11 8).2.2.1 ∈ WG := tch_17 (List.mem_of_getElem? (i := 15) rfl) rfl
theorem wf_X11_59 : Cond.fieldLink RX11 59 (TX11 9).1 (TX11 9).2.1 (TX11 9).2.2.1 ∈ WG := tch_17 (List.mem_of_getElem? (i := 16) rfl) rfl
theorem wf_X11_63 : Cond.fieldLink RX11 63 (TX11 10).1 (TX11 10).2.1 (TX11 10).2.2.1 ∈ WG := tch_17 (List.mem_of_getElem? (i := 17) rfl) rfl
theorem wf_X11_66 : Cond.fieldLink RX11 66 (TX11 11).1 (TX11 11).2.1 (TX11 11).2.2.1 ∈ WG := tch_17 (List.mem_of_getElem? (i := 18) rfl) rfl
theorem wl_L_13 : Cond.methodLink RL 13 yX11_plant ∈ WG := tch_18 (List.mem_of_getElem? (i := 20) rfl) rfl
theorem wi_yX11_plant : Cond.instanceMethod yX11_plant ∈ WG := tch_18 (List.mem_of_getElem? (i := 21) rfl) rfl
theorem we_yX11_plant : Cond.selects RX11 yX11_plant yX11_plant ∈ WG := tch_18 (List.mem_of_getElem? (i := 22) rfl) rfl
theorem wm_yX11_plant : Cond.code yX11_plant cX11_plant 5 (some .boolean) ∈ WG := tch_18 (List.mem_of_getElem? (i := 23) rfl) rfl
theorem wl_X11_70 : Cond.methodLink RX11 70 yX11_isPlace ∈ WG := tch_19 (List.mem_of_getElem? (i := 0) rfl) rfl
theorem wi_yX11_isPlace : Cond.static yX11_isPlace ∈ WG := tch_19 (List.mem_of_getElem? (i := 1) rfl) rfl
theorem wm_yX11_isPlace : Cond.code yX11_isPlace cX11_isPlace 2 (some .boolean) ∈ WG := tch_19 (List.mem_of_getElem? (i := 2) rfl) rfl
theorem wl_X11_74 : Cond.methodLink RX11 74 yX11_isWithin ∈ WG := tch_19 (List.mem_of_getElem? (i := 3) rfl) rfl
theorem wi_yX11_isWithin : Cond.static yX11_isWithin ∈ WG := tch_19 (List.mem_of_getElem? (i := 4) rfl) rfl
theorem wm_yX11_isWithin : Cond.code yX11_isWithin cX11_isWithin 3 (some .boolean) ∈ WG := tch_19 (List.mem_of_getElem? (i := 5) rfl) rfl
theorem wl_X11_82 : Cond.methodLink RX11 82 yX5_tell ∈ WG := tch_19 (List.mem_of_getElem? (i := 6) rfl) rfl
theorem wi_yX5_tell : Cond.instanceMethod yX5_tell ∈ WG := tch_19 (List.mem_of_getElem? (i := 7) rfl) rfl
theorem we_yX5_tell : Cond.selects RX5 yX5_tell yX5_tell ∈ WG := tch_19 (List.mem_of_getElem? (i := 8) rfl) rfl
theorem wm_yX5_tell : Cond.code yX5_tell cX5_tell 4 none ∈ WG := tch_19 (List.mem_of_getElem? (i := 9) rfl) rfl
theorem wl_X5_41 : Cond.methodLink RX5 41 yJ7_fill_53178 ∈ WG := tch_19 (List.mem_of_getElem? (i := 10) rfl) rfl
theorem wi_yJ7_fill_53178 : Cond.static yJ7_fill_53178 ∈ WG := tch_19 (List.mem_of_getElem? (i := 11) rfl) rfl
theorem wm_yJ7_fill_53178 : Cond.code yJ7_fill_53178 cJ7_fill_53178 4 none ∈ WG := tch_19 (List.mem_of_getElem? (i := 12) rfl) rfl
theorem wl_L_18 : Cond.methodLink RL 18 yX11_person ∈ WG := tch_19 (List.mem_of_getElem? (i := 13) rfl) rfl
theorem wi_yX11_person : Cond.instanceMethod yX11_person ∈ WG := tch_19 (List.mem_of_getElem? (i := 14) rfl) rfl
theorem we_yX11_person : Cond.selects RX11 yX11_person yX11_person ∈ WG := tch_19 (List.mem_of_getElem? (i := 15) rfl) rfl
theorem wm_yX11_person : Cond.code yX11_person cX11_person 4 (some .boolean) ∈ WG := tch_19 (List.mem_of_getElem? (i := 16) rfl) rfl
theorem wl_X11_88 : Cond.methodLink RX11 88 yX3_tellPerson ∈ WG := tch_19 (List.mem_of_getElem? (i := 17) rfl) rfl
theorem wi_yX3_tellPerson : Cond.instanceMethod yX3_tellPerson ∈ WG := tch_19 (List.mem_of_getElem? (i := 18) rfl) rfl
theorem we_yX3_tellPerson : Cond.selects RX3 yX3_tellPerson yX3_tellPerson ∈ WG := tch_19 (List.mem_of_getElem? (i := 19) rfl) rfl
theorem wm_yX3_tellPerson : Cond.code yX3_tellPerson cX3_tellPerson 5 none ∈ WG := tch_19 (List.mem_of_getElem? (i := 20) rfl) rfl
theorem wl_L_23 : Cond.methodLink RL 23 yX11_card ∈ WG := tch_19 (List.mem_of_getElem? (i := 21) rfl) rfl
theorem wi_yX11_card : Cond.instanceMethod yX11_card ∈ WG := tch_19 (List.mem_of_getElem? (i := 22) rfl) rfl
theorem we_yX11_card : Cond.selects RX11 yX11_card yX11_card ∈ WG := tch_19 (List.mem_of_getElem? (i := 23) rfl) rfl
theorem wm_yX11_card : Cond.code yX11_card cX11_card 3 (some .boolean) ∈ WG := tch_20 (List.mem_of_getElem? (i := 0) rfl) rfl
theorem wl_X11_91 : Cond.methodLink RX11 91 yX3_isPlant ∈ WG := tch_20 (List.mem_of_getElem? (i := 1) rfl) rfl
theorem wi_yX3_isPlant : Cond.instanceMethod yX3_isPlant ∈ WG := tch_20 (List.mem_of_getElem? (i := 2) rfl) rfl
theorem we_yX3_isPlant : Cond.selects RX3 yX3_isPlant yX3_isPlant ∈ WG := tch_20 (List.mem_of_getElem? (i := 3) rfl) rfl
theorem wm_yX3_isPlant : Cond.code yX3_isPlant cX3_isPlant 2 (some .boolean) ∈ WG := tch_20 (List.mem_of_getElem? (i := 4) rfl) rfl
theorem wl_L_28 : Cond.methodLink RL 28 yX11_pour ∈ WG := tch_20 (List.mem_of_getElem? (i := 6) rfl) rfl
theorem wi_yX11_pour : Cond.instanceMethod yX11_pour ∈ WG := tch_20 (List.mem_of_getElem? (i := 7) rfl) rfl
theorem we_yX11_pour : Cond.selects RX11 yX11_pour yX11_pour ∈ WG := tch_20 (List.mem_of_getElem? (i := 8) rfl) rfl
theorem wm_yX11_pour : Cond.code yX11_pour cX11_pour 3 (some .int) ∈ WG := tch_20 (List.mem_of_getElem? (i := 9) rfl) rfl
theorem wl_X11_103 : Cond.methodLink RX11 103 yX3_isAlive ∈ WG := tch_20 (List.mem_of_getElem? (i := 10) rfl) rfl
theorem wi_yX3_isAlive : Cond.instanceMethod yX3_isAlive ∈ WG := tch_20 (List.mem_of_getElem? (i := 11) rfl) rfl
theorem we_yX3_isAlive : Cond.selects RX3 yX3_isAlive yX3_isAlive ∈ WG := tch_20 (List.mem_of_getElem? (i := 12) rfl) rfl
theorem wm_yX3_isAlive : Cond.code yX3_isAlive cX3_isAlive 2 (some .boolean) ∈ WG := tch_20 (List.mem_of_getElem? (i := 13) rfl) rfl
theorem wl_X3_60 : Cond.methodLink RX3 60 yX3_isPlant ∈ WG := tch_20 (List.mem_of_getElem? (i := 14) rfl) rfl
theorem wl_X3_64 : Cond.methodLink RX3 64 yX5_isDead ∈ WG := tch_20 (List.mem_of_getElem? (i := 15) rfl) rfl
theorem wi_yX5_isDead : Cond.instanceMethod yX5_isDead ∈ WG := tch_20 (List.mem_of_getElem? (i := 16) rfl) rfl
theorem we_yX5_isDead : Cond.selects RX5 yX5_isDead yX5_isDead ∈ WG := tch_20 (List.mem_of_getElem? (i := 17) rfl) rfl
theorem wm_yX5_isDead : Cond.code yX5_isDead cX5_isDead 1 (some .boolean) ∈ WG := tch_20 (List.mem_of_getElem? (i := 18) rfl) rfl
theorem wl_X11_106 : Cond.methodLink RX11 106 yX5_wetBy ∈ WG := tch_20 (List.mem_of_getElem? (i := 19) rfl) rfl
theorem wi_yX5_wetBy : Cond.instanceMethod yX5_wetBy ∈ WG := tch_20 (List.mem_of_getElem? (i := 20) rfl) rfl
theorem we_yX5_wetBy : Cond.selects RX5 yX5_wetBy yX5_wetBy ∈ WG := tch_20 (List.mem_of_getElem? (i := 21) rfl) rfl
theorem wm_yX5_wetBy : Cond.code yX5_wetBy cX5_wetBy 3 (some .int) ∈ WG := tch_20 (List.mem_of_getElem? (i := 22) rfl) rfl
theorem wl_X5_53 : Cond.methodLink RX5 53 yJ9_min_7cf53 ∈ WG := tch_20 (List.mem_of_getElem? (i := 23) rfl) rfl
theorem wi_yJ9_min_7cf53 : Cond.static yJ9_min_7cf53 ∈ WG := tch_21 (List.mem_of_getElem? (i := 0) rfl) rfl
theorem wm_yJ9_min_7cf53 : Cond.code yJ9_min_7cf53 cJ9_min_7cf53 2 (some .int) ∈ WG := tch_21 (List.mem_of_getElem? (i := 1) rfl) rfl
theorem wl_L_33 : Cond.methodLink RL 33 yX11_feed ∈ WG := tch_21 (List.mem_of_getElem? (i := 2) rfl) rfl
theorem wi_yX11_feed : Cond.instanceMethod yX11_feed ∈ WG := tch_21 (List.mem_of_getElem? (i := 3) rfl) rfl
theorem we_yX11_feed : Cond.selects RX11 yX11_feed yX11_feed ∈ WG := tch_21 (List.mem_of_getElem? (i := 4) rfl) rfl
theorem wm_yX11_feed : Cond.code yX11_feed cX11_feed 6 (some .int) ∈ WG := tch_21 (List.mem_of_getElem? (i := 5) rfl) rfl
theorem wl_X11_113 : Cond.methodLink RX11 113 yX8_hasRoom ∈ WG := tch_21 (List.mem_of_getElem? (i := 6) rfl) rfl
theorem wi_yX8_hasRoom : Cond.instanceMethod yX8_hasRoom ∈ WG := tch_21 (List.mem_of_getElem? (i := 7) rfl) rfl
theorem we_yX8_hasRoom : Cond.selects RX8 yX8_hasRoom yX8_hasRoom ∈ WG := tch_21 (List.mem_of_getElem? (i := 8) rfl) rfl
theorem wm_yX8_hasRoom : Cond.code yX8_hasRoom cX8_hasRoom 2 (some .boolean) ∈ WG := tch_21 (List.mem_of_getElem? (i := 9) rfl) rfl
theorem wl_X11_116 : Cond.methodLink RX11 116 yX8_add ∈ WG := tch_21 (List.mem_of_getElem? (i := 10) rfl) rfl
theorem wi_yX8_add : Cond.instanceMethod yX8_add ∈ WG := tch_21 (List.mem_of_getElem? (i := 11) rfl) rfl
theorem we_yX8_add : Cond.selects RX8 yX8_add yX8_add ∈ WG := tch_21 (List.mem_of_getElem? (i := 12) rfl) rfl
theorem wm_yX8_add : Cond.code yX8_add cX8_add 3 none ∈ WG := tch_21 (List.mem_of_getElem? (i := 13) rfl) rfl
theorem wl_L_38 : Cond.methodLink RL 38 yX11_law ∈ WG := tch_21 (List.mem_of_getElem? (i := 14) rfl) rfl
theorem wi_yX11_law : Cond.instanceMethod yX11_law ∈ WG := tch_21 (List.mem_of_getElem? (i := 15) rfl) rfl
theorem we_yX11_law : Cond.selects RX11 yX11_law yX11_law ∈ WG := tch_21 (List.mem_of_getElem? (i := 16) rfl) rfl
theorem wm_yX11_law : Cond.code yX11_law cX11_law 3 (some .int) ∈ WG := tch_21 (List.mem_of_getElem? (i := 17) rfl) rfl
theorem wl_X11_125 : Cond.methodLink RX11 125 yX1_writeLaw ∈ WG := tch_21 (List.mem_of_getElem? (i := 18) rfl) rfl
theorem wi_yX1_writeLaw : Cond.instanceMethod yX1_writeLaw ∈ WG := tch_21 (List.mem_of_getElem? (i := 19) rfl) rfl
theorem we_yX1_writeLaw : Cond.selects RX1 yX1_writeLaw yX1_writeLaw ∈ WG := tch_21 (List.mem_of_getElem? (i := 20) rfl) rfl
theorem wm_yX1_writeLaw : Cond.code yX1_writeLaw cX1_writeLaw 3 (some .int) ∈ WG := tch_21 (List.mem_of_getElem? (i := 21) rfl) rfl
theorem wl_X1_47 : Cond.methodLink RX1 47 yX6_read ∈ WG := tch_21 (List.mem_of_getElem? (i := 23) rfl) rfl
theorem wi_yX6_read : Cond.instanceMethod yX6_read ∈ WG := tch_22 (List.mem_of_getElem? (i := 0) rfl) rfl
theorem we_yX6_read : Cond.selects RX6 yX6_read yX6_read ∈ WG := tch_22 (List.mem_of_getElem? (i := 1) rfl) rfl
theorem wm_yX6_read : Cond.code yX6_read cX6_read 4 (some .int) ∈ WG := tch_22 (List.mem_of_getElem? (i := 2) rfl) rfl
theorem wl_X6_35 : Cond.methodLink RX6 35 yX9_empty ∈ WG := tch_22 (List.mem_of_getElem? (i := 3) rfl) rfl
theorem wi_yX9_empty : Cond.instanceMethod yX9_empty ∈ WG := tch_22 (List.mem_of_getElem? (i := 4) rfl) rfl
theorem we_yX9_empty : Cond.selects RX9 yX9_empty yX9_empty ∈ WG := tch_22 (List.mem_of_getElem? (i := 5) rfl) rfl
theorem wm_yX9_empty : Cond.code yX9_empty cX9_empty 1 none ∈ WG := tch_22 (List.mem_of_getElem? (i := 6) rfl) rfl
theorem wl_X6_38 : Cond.methodLink RX6 38 yX6_clause ∈ WG := tch_22 (List.mem_of_getElem? (i := 7) rfl) rfl
theorem wi_yX6_clause : Cond.instanceMethod yX6_clause ∈ WG := tch_22 (List.mem_of_getElem? (i := 9) rfl) rfl
theorem wm_yX6_clause : Cond.code yX6_clause cX6_clause 3 (some .boolean) ∈ WG := tch_22 (List.mem_of_getElem? (i := 10) rfl) rfl
theorem wl_X6_54 : Cond.methodLink RX6 54 yX6_peek ∈ WG := tch_22 (List.mem_of_getElem? (i := 11) rfl) rfl
theorem wi_yX6_peek : Cond.instanceMethod yX6_peek ∈ WG := tch_22 (List.mem_of_getElem? (i := 13) rfl) rfl
theorem wm_yX6_peek : Cond.code yX6_peek cX6_peek 1 (some .int) ∈ WG := tch_22 (List.mem_of_getElem? (i := 14) rfl) rfl
theorem wl_X6_49 : Cond.methodLink RX6 49 yX8_at ∈ WG := tch_22 (List.mem_of_getElem? (i := 15) rfl) rfl
theorem wi_yX8_at : Cond.instanceMethod yX8_at ∈ WG := tch_22 (List.mem_of_getElem? (i := 16) rfl) rfl
theorem we_yX8_at : Cond.selects RX8 yX8_at yX8_at ∈ WG := tch_22 (List.mem_of_getElem? (i := 17) rfl) rfl
theorem wm_yX8_at : Cond.code yX8_at cX8_at 2 (some .int) ∈ WG := tch_22 (List.mem_of_getElem? (i := 18) rfl) rfl
theorem wl_X6_62 : Cond.methodLink RX6 62 yJ0_indexOf_0f7a4 ∈ WG := tch_22 (List.mem_of_getElem? (i := 19) rfl) rfl
theorem wi_yJ0_indexOf_0f7a4 : Cond.instanceMethod yJ0_indexOf_0f7a4 ∈ WG := tch_22 (List.mem_of_getElem? (i := 20) rfl) rfl
theorem we_yJ0_indexOf_0f7a4 : Cond.selects RJ0 yJ0_indexOf_0f7a4 yJ0_indexOf_0f7a4 ∈ WG := tch_22 (List.mem_of_getElem? (i := 21) rfl) rfl
theorem wm_yJ0_indexOf_0f7a4 : Cond.code yJ0_indexOf_0f7a4 cJ0_indexOf_0f7a4 2 (some .int) ∈ WG := tch_22 (List.mem_of_getElem? (i := 22) rfl) rfl
theorem wl_J0_633 : Cond.methodLink RJ0 633 yJ0_indexOf_7cf53 ∈ WG := tch_22 (List.mem_of_getElem? (i := 23) rfl) rfl
theorem wi_yJ0_indexOf_7cf53 : Cond.instanceMethod yJ0_indexOf_7cf53 ∈ WG := tch_23 (List.mem_of_getElem? (i := 0) rfl) rfl
theorem we_yJ0_indexOf_7cf53 : Cond.selects RJ0 yJ0_indexOf_7cf53 yJ0_indexOf_7cf53 ∈ WG := tch_23 (List.mem_of_getElem? (i := 1) rfl) rfl
theorem wm_yJ0_indexOf_7cf53 : Cond.code yJ0_indexOf_7cf53 cJ0_indexOf_7cf53 3 (some .int) ∈ WG := tch_23 (List.mem_of_getElem? (i := 2) rfl) rfl
theorem wl_J0_492 : Cond.methodLink RJ0 492 yJ0_isLatin1_aae02 ∈ WG := tch_23 (List.mem_of_getElem? (i := 3) rfl) rfl
theorem wi_yJ0_isLatin1_aae02 : Cond.instanceMethod yJ0_isLatin1_aae02 ∈ WG := tch_23 (List.mem_of_getElem? (i := 4) rfl) rfl
theorem we_yJ0_isLatin1_aae02 : Cond.selects RJ0 yJ0_isLatin1_aae02 yJ0_isLatin1_aae02 ∈ WG := tch_23 (List.mem_of_getElem? (i := 5) rfl) rfl
theorem wm_yJ0_isLatin1_aae02 : Cond.code yJ0_isLatin1_aae02 cJ0_isLatin1_aae02 1 (some .boolean) ∈ WG := tch_23 (List.mem_of_getElem? (i := 6) rfl) rfl
theorem wl_J0_505 : Cond.methodLink RJ0 505 yJ0_length_8abf5 ∈ WG := tch_23 (List.mem_of_getElem? (i := 9) rfl) rfl
theorem wi_yJ0_length_8abf5 : Cond.instanceMethod yJ0_length_8abf5 ∈ WG := tch_23 (List.mem_of_getElem? (i := 10) rfl) rfl
theorem we_yJ0_length_8abf5 : Cond.selects RJ0 yJ0_length_8abf5 yJ0_length_8abf5 ∈ WG := tch_23 (List.mem_of_getElem? (i := 11) rfl) rfl
theorem wm_yJ0_length_8abf5 : Cond.code yJ0_length_8abf5 cJ0_length_8abf5 1 (some .int) ∈ WG := tch_23 (List.mem_of_getElem? (i := 12) rfl) rfl
theorem wl_J0_335 : Cond.methodLink RJ0 335 yJ0_coder_7d493 ∈ WG := tch_23 (List.mem_of_getElem? (i := 13) rfl) rfl
theorem wi_yJ0_coder_7d493 : Cond.instanceMethod yJ0_coder_7d493 ∈ WG := tch_23 (List.mem_of_getElem? (i := 14) rfl) rfl
theorem we_yJ0_coder_7d493 : Cond.selects RJ0 yJ0_coder_7d493 yJ0_coder_7d493 ∈ WG := tch_23 (List.mem_of_getElem? (i := 15) rfl) rfl
theorem wm_yJ0_coder_7d493 : Cond.code yJ0_coder_7d493 cJ0_coder_7d493 1 (some .byte) ∈ WG := tch_23 (List.mem_of_getElem? (i := 16) rfl) rfl
theorem wl_J0_637 : Cond.methodLink RJ0 637 yJ1_indexOf_4cfef ∈ WG := tch_23 (List.mem_of_getElem? (i := 17) rfl) rfl
theorem wi_yJ1_indexOf_4cfef : Cond.static yJ1_indexOf_4cfef ∈ WG := tch_23 (List.mem_of_getElem? (i := 18) rfl) rfl
theorem wm_yJ1_indexOf_4cfef : Cond.code yJ1_indexOf_4cfef cJ1_indexOf_4cfef 4 (some .int) ∈ WG := tch_23 (List.mem_of_getElem? (i := 19) rfl) rfl
theorem wl_J1_88 : Cond.methodLink RJ1 88 yJ1_canEncode_9a6ad ∈ WG := tch_23 (List.mem_of_getElem? (i := 20) rfl) rfl
theorem wi_yJ1_canEncode_9a6ad : Cond.static yJ1_canEncode_9a6ad ∈ WG := tch_23 (List.mem_of_getElem? (i := 21) rfl) rfl
theorem wm_yJ1_canEncode_9a6ad : Cond.code yJ1_canEncode_9a6ad cJ1_canEncode_9a6ad 1 (some .boolean) ∈ WG := tch_23 (List.mem_of_getElem? (i := 22) rfl) rfl
theorem wl_J1_92 : Cond.methodLink RJ1 92 yJ9_max_7cf53 ∈ WG := tch_23 (List.mem_of_getElem? (i := 23) rfl) rfl
theorem wi_yJ9_max_7cf53 : Cond.static yJ9_max_7cf53 ∈ WG := tch_24 (List.mem_of_getElem? (i := 0) rfl) rfl
theorem wm_yJ9_max_7cf53 : Cond.code yJ9_max_7cf53 cJ9_max_7cf53 2 (some .int) ∈ WG := tch_24 (List.mem_of_getElem? (i := 1) rfl) rfl
theorem wl_J1_38 : Cond.methodLink RJ1 38 yJ9_min_7cf53 ∈ WG := tch_24 (List.mem_of_getElem? (i := 2) rfl) rfl
theorem wl_J1_95 : Cond.methodLink RJ1 95 yJ1_indexOfChar_4cfef ∈ WG := tch_24 (List.mem_of_getElem? (i := 3) rfl) rfl
theorem wi_yJ1_indexOfChar_4cfef : Cond.static yJ1_indexOfChar_4cfef ∈ WG := tch_24 (List.mem_of_getElem? (i := 4) rfl) rfl
theorem wm_yJ1_indexOfChar_4cfef : Cond.code yJ1_indexOfChar_4cfef cJ1_indexOfChar_4cfef 6 (some .int) ∈ WG := tch_24 (List.mem_of_getElem? (i := 5) rfl) rfl
theorem wl_J0_640 : Cond.methodLink RJ0 640 yJ2_indexOf_4cfef ∈ WG := tch_24 (List.mem_of_getElem? (i := 6) rfl) rfl
theorem wi_yJ2_indexOf_4cfef : Cond.static yJ2_indexOf_4cfef ∈ WG := tch_24 (List.mem_of_getElem? (i := 7) rfl) rfl
theorem wm_yJ2_indexOf_4cfef : Cond.code yJ2_indexOf_4cfef cJ2_indexOf_4cfef 4 (some .int) ∈ WG := tch_24 (List.mem_of_getElem? (i := 8) rfl) rfl
theorem wl_J2_224 : Cond.methodLink RJ2 224 yJ9_max_7cf53 ∈ WG := tch_24 (List.mem_of_getElem? (i := 9) rfl) rfl
theorem wl_J2_183 : Cond.methodLink RJ2 183 yJ9_min_7cf53 ∈ WG := tch_24 (List.mem_of_getElem? (i := 10) rfl) rfl
theorem wq_J2_227 : Cond.constant RJ2 227 (Int32.ofInt (65536)) ∈ WG := tch_24 (List.mem_of_getElem? (i := 11) rfl) rfl
theorem wl_J2_228 : Cond.methodLink RJ2 228 yJ2_indexOfChar_4cfef ∈ WG := tch_24 (List.mem_of_getElem? (i := 12) rfl) rfl
theorem wi_yJ2_indexOfChar_4cfef : Cond.static yJ2_indexOfChar_4cfef ∈ WG := tch_24 (List.mem_of_getElem? (i := 13) rfl) rfl
theorem wm_yJ2_indexOfChar_4cfef : Cond.code yJ2_indexOfChar_4cfef cJ2_indexOfChar_4cfef 4 (some .int) ∈ WG := tch_24 (List.mem_of_getElem? (i := 14) rfl) rfl
theorem wl_J2_96 : Cond.methodLink RJ2 96 yJ2_checkBoundsBeginEnd_d044e ∈ WG := tch_24 (List.mem_of_getElem? (i := 15) rfl) rfl
theorem wi_yJ2_checkBoundsBeginEnd_d044e : Cond.static yJ2_checkBoundsBeginEnd_d044e ∈ WG := tch_24 (List.mem_of_getElem? (i := 16) rfl) rfl
theorem wm_yJ2_checkBoundsBeginEnd_d044e : Cond.code yJ2_checkBoundsBeginEnd_d044e cJ2_checkBoundsBeginEnd_d044e 3 none ∈ WG := tch_24 (List.mem_of_getElem? (i := 17) rfl) rfl
theorem wl_J2_48 : Cond.methodLink RJ2 48 yJ2_length_9d52b ∈ WG := tch_24 (List.mem_of_getElem? (i := 18) rfl) rfl
theorem wi_yJ2_length_9d52b : Cond.static yJ2_length_9d52b ∈ WG := tch_24 (List.mem_of_getElem? (i := 19) rfl) rfl
theorem wm_yJ2_length_9d52b : Cond.code yJ2_length_9d52b cJ2_length_9d52b 1 (some .int) ∈ WG := tch_24 (List.mem_of_getElem? (i := 20) rfl) rfl
theorem wl_J2_241 : Cond.methodLink RJ2 241 yJ0_checkBoundsBeginEnd_23922 ∈ WG := tch_24 (List.mem_of_getElem? (i := 21) rfl) rfl
theorem wi_yJ0_checkBoundsBeginEnd_23922 : Cond.static yJ0_checkBoundsBeginEnd_23922 ∈ WG := tch_24 (List.mem_of_getElem? (i := 22) rfl) rfl
theorem wm_yJ0_checkBoundsBeginEnd_23922 : Cond.code yJ0_checkBoundsBeginEnd_23922 cJ0_checkBoundsBeginEnd_23922 3 none ∈ WG := tch_24 (List.mem_of_getElem? (i := 23) rfl) rfl
theorem wl_J0_1062 : Cond.methodLink RJ0 1062 yJ3_checkFromToIndex_8c36e ∈ WG := tch_25 (List.mem_of_getElem? (i := 2) rfl) rfl
theorem wi_yJ3_checkFromToIndex_8c36e : Cond.static yJ3_checkFromToIndex_8c36e ∈ WG := tch_25 (List.mem_of_getElem? (i := 3) rfl) rfl
theorem wm_yJ3_checkFromToIndex_8c36e : Cond.code yJ3_checkFromToIndex_8c36e cJ3_checkFromToIndex_8c36e 4 (some .int) ∈ WG := tch_25 (List.mem_of_getElem? (i := 4) rfl) rfl
theorem wl_J2_244 : Cond.methodLink RJ2 244 yJ2_indexOfCharUnsafe_4cfef ∈ WG := tch_25 (List.mem_of_getElem? (i := 5) rfl) rfl
theorem wi_yJ2_indexOfCharUnsafe_4cfef : Cond.static yJ2_indexOfCharUnsafe_4cfef ∈ WG := tch_25 (List.mem_of_getElem? (i := 6) rfl) rfl
theorem wm_yJ2_indexOfCharUnsafe_4cfef : Cond.code yJ2_indexOfCharUnsafe_4cfef cJ2_indexOfCharUnsafe_4cfef 5 (some .int) ∈ WG := tch_25 (List.mem_of_getElem? (i := 7) rfl) rfl
theorem wl_J2_71 : Cond.methodLink RJ2 71 yJ2_getChar_3b067 ∈ WG := tch_25 (List.mem_of_getElem? (i := 8) rfl) rfl
theorem wi_yJ2_getChar_3b067 : Cond.static yJ2_getChar_3b067 ∈ WG := tch_25 (List.mem_of_getElem? (i := 9) rfl) rfl
theorem wm_yJ2_getChar_3b067 : Cond.code yJ2_getChar_3b067 cJ2_getChar_3b067 2 (some .char) ∈ WG := tch_25 (List.mem_of_getElem? (i := 10) rfl) rfl
theorem wl_J2_232 : Cond.methodLink RJ2 232 yJ2_indexOfSupplementary_4cfef ∈ WG := tch_25 (List.mem_of_getElem? (i := 17) rfl) rfl
theorem wi_yJ2_indexOfSupplementary_4cfef : Cond.static yJ2_indexOfSupplementary_4cfef ∈ WG := tch_25 (List.mem_of_getElem? (i := 18) rfl) rfl
theorem wm_yJ2_indexOfSupplementary_4cfef : Cond.code yJ2_indexOfSupplementary_4cfef cJ2_indexOfSupplementary_4cfef 7 (some .int) ∈ WG := tch_25 (List.mem_of_getElem? (i := 19) rfl) rfl
theorem wl_J2_164 : Cond.methodLink RJ2 164 yJ11_isValidCodePoint_9a6ad ∈ WG := tch_25 (List.mem_of_getElem? (i := 20) rfl) rfl
theorem wi_yJ11_isValidCodePoint_9a6ad : Cond.static yJ11_isValidCodePoint_9a6ad ∈ WG := tch_25 (List.mem_of_getElem? (i := 21) rfl) rfl
theorem wm_yJ11_isValidCodePoint_9a6ad : Cond.code yJ11_isValidCodePoint_9a6ad cJ11_isValidCodePoint_9a6ad 2 (some .boolean) ∈ WG := tch_25 (List.mem_of_getElem? (i := 22) rfl) rfl
theorem wl_J2_157 : Cond.methodLink RJ2 157 yJ11_highSurrogate_5068e ∈ WG := tch_25 (List.mem_of_getElem? (i := 23) rfl) rfl
theorem wi_yJ11_highSurrogate_5068e : Cond.static yJ11_highSurrogate_5068e ∈ WG := tch_26 (List.mem_of_getElem? (i := 0) rfl) rfl
theorem wm_yJ11_highSurrogate_5068e : Cond.code yJ11_highSurrogate_5068e cJ11_highSurrogate_5068e 1 (some .char) ∈ WG := tch_26 (List.mem_of_getElem? (i := 1) rfl) rfl
theorem wq_J11_110 : Cond.constant RJ11 110 (Int32.ofInt (55232)) ∈ WG := tch_26 (List.mem_of_getElem? (i := 2) rfl) rfl
theorem wl_J2_161 : Cond.methodLink RJ2 161 yJ11_lowSurrogate_5068e ∈ WG := tch_26 (List.mem_of_getElem? (i := 3) rfl) rfl
theorem wi_yJ11_lowSurrogate_5068e : Cond.static yJ11_lowSurrogate_5068e ∈ WG := tch_26 (List.mem_of_getElem? (i := 4) rfl) rfl
theorem wm_yJ11_lowSurrogate_5068e : Cond.code yJ11_lowSurrogate_5068e cJ11_lowSurrogate_5068e 1 (some .char) ∈ WG := tch_26 (List.mem_of_getElem? (i := 5) rfl) rfl
theorem wq_J11_76 : Cond.constant RJ11 76 (Int32.ofInt (56320)) ∈ WG := tch_26 (List.mem_of_getElem? (i := 6) rfl) rfl
theorem wl_X6_58 : Cond.methodLink RX6 58 yX6_fail ∈ WG := tch_26 (List.mem_of_getElem? (i := 7) rfl) rfl
theorem wi_yX6_fail : Cond.instanceMethod yX6_fail ∈ WG := tch_26 (List.mem_of_getElem? (i := 9) rfl) rfl
theorem wm_yX6_fail : Cond.code yX6_fail cX6_fail 2 (some .boolean) ∈ WG := tch_26 (List.mem_of_getElem? (i := 10) rfl) rfl
theorem wl_X6_67 : Cond.methodLink RX6 67 yX9_begin ∈ WG := tch_26 (List.mem_of_getElem? (i := 11) rfl) rfl
theorem wi_yX9_begin : Cond.instanceMethod yX9_begin ∈ WG := tch_26 (List.mem_of_getElem? (i := 12) rfl) rfl
theorem we_yX9_begin : Cond.selects RX9 yX9_begin yX9_begin ∈ WG := tch_26 (List.mem_of_getElem? (i := 13) rfl) rfl
theorem wm_yX9_begin : Cond.code yX9_begin cX9_begin 2 none ∈ WG := tch_26 (List.mem_of_getElem? (i := 14) rfl) rfl
theorem wl_X6_71 : Cond.methodLink RX6 71 yX6_sum ∈ WG := tch_26 (List.mem_of_getElem? (i := 15) rfl) rfl
theorem wi_yX6_sum : Cond.instanceMethod yX6_sum ∈ WG := tch_26 (List.mem_of_getElem? (i := 17) rfl) rfl
theorem wm_yX6_sum : Cond.code yX6_sum cX6_sum 3 (some .boolean) ∈ WG := tch_26 (List.mem_of_getElem? (i := 18) rfl) rfl
theorem wl_X6_113 : Cond.methodLink RX6 113 yX6_term ∈ WG := tch_26 (List.mem_of_getElem? (i := 19) rfl) rfl
theorem wi_yX6_term : Cond.instanceMethod yX6_term ∈ WG := tch_26 (List.mem_of_getElem? (i := 21) rfl) rfl
theorem wm_yX6_term : Cond.code yX6_term cX6_term 3 (some .boolean) ∈ WG := tch_26 (List.mem_of_getElem? (i := 22) rfl) rfl
theorem wl_X6_116 : Cond.methodLink RX6 116 yX6_factor ∈ WG := tch_26 (List.mem_of_getElem? (i := 23) rfl) rfl
theorem wi_yX6_factor : Cond.instanceMethod yX6_factor ∈ WG := tch_27 (List.mem_of_getElem? (i := 1) rfl) rfl
theorem wm_yX6_factor : Cond.code yX6_factor cX6_factor 2 (some .boolean) ∈ WG := tch_27 (List.mem_of_getElem? (i := 2) rfl) rfl
theorem wl_X6_78 : Cond.methodLink RX6 78 yX6_bracket ∈ WG := tch_27 (List.mem_of_getElem? (i := 3) rfl) rfl
theorem wi_yX6_bracket : Cond.instanceMethod yX6_bracket ∈ WG := tch_27 (List.mem_of_getElem? (i := 5) rfl) rfl
theorem wm_yX6_bracket : Cond.code yX6_bracket cX6_bracket 3 (some .boolean) ∈ WG := tch_27 (List.mem_of_getElem? (i := 6) rfl) rfl
theorem wl_X6_83 : Cond.methodLink RX6 83 yX6_enter ∈ WG := tch_27 (List.mem_of_getElem? (i := 7) rfl) rfl
theorem wi_yX6_enter : Cond.instanceMethod yX6_enter ∈ WG := tch_27 (List.mem_of_getElem? (i := 9) rfl) rfl
theorem wm_yX6_enter : Cond.code yX6_enter cX6_enter 1 (some .boolean) ∈ WG := tch_27 (List.mem_of_getElem? (i := 10) rfl) rfl
theorem wl_X6_86 : Cond.methodLink RX6 86 yX6_condition ∈ WG := tch_27 (List.mem_of_getElem? (i := 11) rfl) rfl
theorem wi_yX6_condition : Cond.instanceMethod yX6_condition ∈ WG := tch_27 (List.mem_of_getElem? (i := 13) rfl) rfl
theorem wm_yX6_condition : Cond.code yX6_condition cX6_condition 3 (some .boolean) ∈ WG := tch_27 (List.mem_of_getElem? (i := 14) rfl) rfl
theorem wl_X6_89 : Cond.methodLink RX6 89 yX6_conditionPart ∈ WG := tch_27 (List.mem_of_getElem? (i := 15) rfl) rfl
theorem wi_yX6_conditionPart : Cond.instanceMethod yX6_conditionPart ∈ WG := tch_27 (List.mem_of_getElem? (i := 17) rfl) rfl
theorem wm_yX6_conditionPart : Cond.code yX6_conditionPart cX6_conditionPart 3 (some .boolean) ∈ WG := tch_27 (List.mem_of_getElem? (i := 18) rfl) rfl
theorem wl_X6_100 : Cond.methodLink RX6 100 yX6_piece ∈ WG := tch_27 (List.mem_of_getElem? (i := 19) rfl) rfl
theorem wi_yX6_piece : Cond.instanceMethod yX6_piece ∈ WG := tch_27 (List.mem_of_getElem? (i := 21) rfl) rfl
theorem wm_yX6_piece : Cond.code yX6_piece cX6_piece 1 (some .boolean) ∈ WG := tch_27 (List.mem_of_getElem? (i := 22) rfl) rfl
theorem wl_X6_103 : Cond.methodLink RX6 103 yX6_comparison ∈ WG := tch_27 (List.mem_of_getElem? (i := 23) rfl) rfl
theorem wi_yX6_comparison : Cond.instanceMethod yX6_comparison ∈ WG := tch_28 (List.mem_of_getElem? (i := 1) rfl) rfl
theorem wm_yX6_comparison : Cond.code yX6_comparison cX6_comparison 2 (some .boolean) ∈ WG := tch_28 (List.mem_of_getElem? (i := 2) rfl) rfl
theorem wl_X6_110 : Cond.methodLink RX6 110 yX6_stepOf ∈ WG := tch_28 (List.mem_of_getElem? (i := 3) rfl) rfl
theorem wi_yX6_stepOf : Cond.static yX6_stepOf ∈ WG := tch_28 (List.mem_of_getElem? (i := 4) rfl) rfl
theorem wm_yX6_stepOf : Cond.code yX6_stepOf cX6_stepOf 1 (some .int) ∈ WG := tch_28 (List.mem_of_getElem? (i := 5) rfl) rfl
theorem wl_X6_106 : Cond.methodLink RX6 106 yX9_put ∈ WG := tch_28 (List.mem_of_getElem? (i := 6) rfl) rfl
theorem wi_yX9_put : Cond.instanceMethod yX9_put ∈ WG := tch_28 (List.mem_of_getElem? (i := 7) rfl) rfl
theorem we_yX9_put : Cond.selects RX9 yX9_put yX9_put ∈ WG := tch_28 (List.mem_of_getElem? (i := 8) rfl) rfl
theorem wm_yX9_put : Cond.code yX9_put cX9_put 3 none ∈ WG := tch_28 (List.mem_of_getElem? (i := 9) rfl) rfl
theorem wl_X6_92 : Cond.methodLink RX6 92 yX9_jump ∈ WG := tch_28 (List.mem_of_getElem? (i := 10) rfl) rfl
theorem wi_yX9_jump : Cond.instanceMethod yX9_jump ∈ WG := tch_28 (List.mem_of_getElem? (i := 11) rfl) rfl
theorem we_yX9_jump : Cond.selects RX9 yX9_jump yX9_jump ∈ WG := tch_28 (List.mem_of_getElem? (i := 12) rfl) rfl
theorem wm_yX9_jump : Cond.code yX9_jump cX9_jump 3 (some .int) ∈ WG := tch_28 (List.mem_of_getElem? (i := 13) rfl) rfl
theorem wl_X9_30 : Cond.methodLink RX9 30 yX9_land ∈ WG := tch_28 (List.mem_of_getElem? (i := 14) rfl) rfl
theorem wi_yX9_land : Cond.instanceMethod yX9_land ∈ WG := tch_28 (List.mem_of_getElem? (i := 15) rfl) rfl
theorem we_yX9_land : Cond.selects RX9 yX9_land yX9_land ∈ WG := tch_28 (List.mem_of_getElem? (i := 16) rfl) rfl
theorem wm_yX9_land : Cond.code yX9_land cX9_land 2 none ∈ WG := tch_28 (List.mem_of_getElem? (i := 17) rfl) rfl
theorem wl_X9_34 : Cond.methodLink RX9 34 yX9_put ∈ WG := tch_28 (List.mem_of_getElem? (i := 18) rfl) rfl
theorem wl_X6_96 : Cond.methodLink RX6 96 yX9_land ∈ WG := tch_28 (List.mem_of_getElem? (i := 19) rfl) rfl
theorem wl_X6_45 : Cond.methodLink RX6 45 yX6_sign ∈ WG := tch_28 (List.mem_of_getElem? (i := 20) rfl) rfl
theorem wi_yX6_sign : Cond.instanceMethod yX6_sign ∈ WG := tch_28 (List.mem_of_getElem? (i := 22) rfl) rfl
theorem wm_yX6_sign : Cond.code yX6_sign cX6_sign 2 (some .boolean) ∈ WG := tch_28 (List.mem_of_getElem? (i := 23) rfl) rfl
theorem wl_X6_119 : Cond.methodLink RX6 119 yX6_isDigit ∈ WG := tch_29 (List.mem_of_getElem? (i := 0) rfl) rfl
theorem wi_yX6_isDigit : Cond.static yX6_isDigit ∈ WG := tch_29 (List.mem_of_getElem? (i := 1) rfl) rfl
theorem wm_yX6_isDigit : Cond.code yX6_isDigit cX6_isDigit 1 (some .boolean) ∈ WG := tch_29 (List.mem_of_getElem? (i := 2) rfl) rfl
theorem wl_X6_122 : Cond.methodLink RX6 122 yX6_number ∈ WG := tch_29 (List.mem_of_getElem? (i := 3) rfl) rfl
theorem wi_yX6_number : Cond.instanceMethod yX6_number ∈ WG := tch_29 (List.mem_of_getElem? (i := 5) rfl) rfl
theorem wm_yX6_number : Cond.code yX6_number cX6_number 3 (some .boolean) ∈ WG := tch_29 (List.mem_of_getElem? (i := 6) rfl) rfl
theorem wl_X6_75 : Cond.methodLink RX6 75 yX9_beginWhen ∈ WG := tch_29 (List.mem_of_getElem? (i := 8) rfl) rfl
theorem wi_yX9_beginWhen : Cond.instanceMethod yX9_beginWhen ∈ WG := tch_29 (List.mem_of_getElem? (i := 9) rfl) rfl
theorem we_yX9_beginWhen : Cond.selects RX9 yX9_beginWhen yX9_beginWhen ∈ WG := tch_29 (List.mem_of_getElem? (i := 10) rfl) rfl
theorem wm_yX9_beginWhen : Cond.code yX9_beginWhen cX9_beginWhen 1 none ∈ WG := tch_29 (List.mem_of_getElem? (i := 11) rfl) rfl
theorem wl_X6_81 : Cond.methodLink RX6 81 yX9_end ∈ WG := tch_29 (List.mem_of_getElem? (i := 12) rfl) rfl
theorem wi_yX9_end : Cond.instanceMethod yX9_end ∈ WG := tch_29 (List.mem_of_getElem? (i := 13) rfl) rfl
theorem we_yX9_end : Cond.selects RX9 yX9_end yX9_end ∈ WG := tch_29 (List.mem_of_getElem? (i := 14) rfl) rfl
theorem wm_yX9_end : Cond.code yX9_end cX9_end 1 none ∈ WG := tch_29 (List.mem_of_getElem? (i := 15) rfl) rfl
theorem wl_X1_51 : Cond.methodLink RX1 51 yX6_swap ∈ WG := tch_29 (List.mem_of_getElem? (i := 16) rfl) rfl
theorem wi_yX6_swap : Cond.instanceMethod yX6_swap ∈ WG := tch_29 (List.mem_of_getElem? (i := 17) rfl) rfl
theorem we_yX6_swap : Cond.selects RX6 yX6_swap yX6_swap ∈ WG := tch_29 (List.mem_of_getElem? (i := 18) rfl) rfl
theorem wm_yX6_swap : Cond.code yX6_swap cX6_swap 3 (some (.object "LandingTree$Text")) ∈ WG := tch_29 (List.mem_of_getElem? (i := 19) rfl) rfl
theorem wa_byte : Cond.arrayClass .byte ∈ WG := tch_29 (List.mem_of_getElem? (i := 20) rfl) rfl
theorem wl_L_43 : Cond.methodLink RL 43 yX11_rule ∈ WG := tch_29 (List.mem_of_getElem? (i := 21) rfl) rfl
theorem wi_yX11_rule : Cond.instanceMethod yX11_rule ∈ WG := tch_29 (List.mem_of_getElem? (i := 22) rfl) rfl
theorem we_yX11_rule : Cond.selects RX11 yX11_rule yX11_rule ∈ WG := tch_29 (List.mem_of_getElem? (i := 23) rfl) rfl
theorem wm_yX11_rule : Cond.code yX11_rule cX11_rule 4 (some .int) ∈ WG := tch_30 (List.mem_of_getElem? (i := 0) rfl) rfl
theorem wl_X11_128 : Cond.methodLink RX11 128 yX1_writeRule ∈ WG := tch_30 (List.mem_of_getElem? (i := 1) rfl) rfl
theorem wi_yX1_writeRule : Cond.instanceMethod yX1_writeRule ∈ WG := tch_30 (List.mem_of_getElem? (i := 2) rfl) rfl
theorem we_yX1_writeRule : Cond.selects RX1 yX1_writeRule yX1_writeRule ∈ WG := tch_30 (List.mem_of_getElem? (i := 3) rfl) rfl
theorem wm_yX1_writeRule : Cond.code yX1_writeRule cX1_writeRule 4 (some .int) ∈ WG := tch_30 (List.mem_of_getElem? (i := 4) rfl) rfl
theorem wl_L_47 : Cond.methodLink RL 47 yX11_days ∈ WG := tch_30 (List.mem_of_getElem? (i := 6) rfl) rfl
theorem wi_yX11_days : Cond.instanceMethod yX11_days ∈ WG := tch_30 (List.mem_of_getElem? (i := 7) rfl) rfl
theorem we_yX11_days : Cond.selects RX11 yX11_days yX11_days ∈ WG := tch_30 (List.mem_of_getElem? (i := 8) rfl) rfl
theorem wm_yX11_days : Cond.code yX11_days cX11_days 2 (some .int) ∈ WG := tch_30 (List.mem_of_getElem? (i := 9) rfl) rfl
theorem wl_X11_132 : Cond.methodLink RX11 132 yX3_goBy ∈ WG := tch_30 (List.mem_of_getElem? (i := 10) rfl) rfl
theorem wi_yX3_goBy : Cond.instanceMethod yX3_goBy ∈ WG := tch_30 (List.mem_of_getElem? (i := 11) rfl) rfl
theorem we_yX3_goBy : Cond.selects RX3 yX3_goBy yX3_goBy ∈ WG := tch_30 (List.mem_of_getElem? (i := 12) rfl) rfl
theorem wm_yX3_goBy : Cond.code yX3_goBy cX3_goBy 4 none ∈ WG := tch_30 (List.mem_of_getElem? (i := 13) rfl) rfl
theorem wl_X3_76 : Cond.methodLink RX3 76 yX3_oneDay ∈ WG := tch_30 (List.mem_of_getElem? (i := 14) rfl) rfl
theorem wi_yX3_oneDay : Cond.instanceMethod yX3_oneDay ∈ WG := tch_30 (List.mem_of_getElem? (i := 16) rfl) rfl
theorem wm_yX3_oneDay : Cond.code yX3_oneDay cX3_oneDay 4 none ∈ WG := tch_30 (List.mem_of_getElem? (i := 17) rfl) rfl
theorem wl_X3_80 : Cond.methodLink RX3 80 yX3_draw ∈ WG := tch_30 (List.mem_of_getElem? (i := 18) rfl) rfl
theorem wi_yX3_draw : Cond.instanceMethod yX3_draw ∈ WG := tch_30 (List.mem_of_getElem? (i := 19) rfl) rfl
theorem we_yX3_draw : Cond.selects RX3 yX3_draw yX3_draw ∈ WG := tch_30 (List.mem_of_getElem? (i := 20) rfl) rfl
theorem wm_yX3_draw : Cond.code yX3_draw cX3_draw 1 (some .int) ∈ WG := tch_30 (List.mem_of_getElem? (i := 21) rfl) rfl
theorem wq_X3_68 : Cond.constant RX3 68 (Int32.ofInt (65535)) ∈ WG := tch_30 (List.mem_of_getElem? (i := 22) rfl) rfl
theorem wl_X3_84 : Cond.methodLink RX3 84 yX3_giveTo ∈ WG := tch_30 (List.mem_of_getElem? (i := 23) rfl) rfl
theorem wi_yX3_giveTo : Cond.instanceMethod yX3_giveTo ∈ WG := tch_31 (List.mem_of_getElem? (i := 0) rfl) rfl
theorem we_yX3_giveTo : Cond.selects RX3 yX3_giveTo yX3_giveTo ∈ WG := tch_31 (List.mem_of_getElem? (i := 1) rfl) rfl
theorem wm_yX3_giveTo : Cond.code yX3_giveTo cX3_giveTo 6 none ∈ WG := tch_31 (List.mem_of_getElem? (i := 2) rfl) rfl
theorem wl_X3_95 : Cond.methodLink RX3 95 yX3_isPerson ∈ WG := tch_31 (List.mem_of_getElem? (i := 3) rfl) rfl
theorem wi_yX3_isPerson : Cond.instanceMethod yX3_isPerson ∈ WG := tch_31 (List.mem_of_getElem? (i := 4) rfl) rfl
theorem we_yX3_isPerson : Cond.selects RX3 yX3_isPerson yX3_isPerson ∈ WG := tch_31 (List.mem_of_getElem? (i := 5) rfl) rfl
theorem wm_yX3_isPerson : Cond.code yX3_isPerson cX3_isPerson 2 (some .boolean) ∈ WG := tch_31 (List.mem_of_getElem? (i := 6) rfl) rfl
theorem wl_X3_88 : Cond.methodLink RX3 88 yX3_isAlive ∈ WG := tch_31 (List.mem_of_getElem? (i := 7) rfl) rfl
theorem wl_X3_98 : Cond.methodLink RX3 98 yX1_gift ∈ WG := tch_31 (List.mem_of_getElem? (i := 8) rfl) rfl
theorem wi_yX1_gift : Cond.instanceMethod yX1_gift ∈ WG := tch_31 (List.mem_of_getElem? (i := 9) rfl) rfl
theorem we_yX1_gift : Cond.selects RX1 yX1_gift yX1_gift ∈ WG := tch_31 (List.mem_of_getElem? (i := 10) rfl) rfl
theorem wm_yX1_gift : Cond.code yX1_gift cX1_gift 5 (some .int) ∈ WG := tch_31 (List.mem_of_getElem? (i := 11) rfl) rfl
theorem wl_X1_70 : Cond.methodLink RX1 70 yX0_onDay ∈ WG := tch_31 (List.mem_of_getElem? (i := 12) rfl) rfl
theorem wi_yX0_onDay : Cond.instanceMethod yX0_onDay ∈ WG := tch_31 (List.mem_of_getElem? (i := 13) rfl) rfl
theorem we_yX0_onDay : Cond.selects RX0 yX0_onDay yX0_onDay ∈ WG := tch_31 (List.mem_of_getElem? (i := 14) rfl) rfl
theorem wm_yX0_onDay : Cond.code yX0_onDay cX0_onDay 3 none ∈ WG := tch_31 (List.mem_of_getElem? (i := 15) rfl) rfl
theorem wl_X0_18 : Cond.methodLink RX0 18 yX0_put ∈ WG := tch_31 (List.mem_of_getElem? (i := 16) rfl) rfl
theorem wi_yX0_put : Cond.instanceMethod yX0_put ∈ WG := tch_31 (List.mem_of_getElem? (i := 17) rfl) rfl
theorem we_yX0_put : Cond.selects RX0 yX0_put yX0_put ∈ WG := tch_31 (List.mem_of_getElem? (i := 18) rfl) rfl
theorem wm_yX0_put : Cond.code yX0_put cX0_put 4 none ∈ WG := tch_31 (List.mem_of_getElem? (i := 19) rfl) rfl
theorem wl_X1_78 : Cond.methodLink RX1 78 yX0_of ∈ WG := tch_31 (List.mem_of_getElem? (i := 20) rfl) rfl
theorem wi_yX0_of : Cond.instanceMethod yX0_of ∈ WG := tch_31 (List.mem_of_getElem? (i := 21) rfl) rfl
theorem we_yX0_of : Cond.selects RX0 yX0_of yX0_of ∈ WG := tch_31 (List.mem_of_getElem? (i := 22) rfl) rfl
theorem wm_yX0_of : Cond.code yX0_of cX0_of 4 none ∈ WG := tch_31 (List.mem_of_getElem? (i := 23) rfl) rfl
theorem wl_X1_90 : Cond.methodLink RX1 90 yX0_by ∈ WG := tch_32 (List.mem_of_getElem? (i := 0) rfl) rfl
theorem wi_yX0_by : Cond.instanceMethod yX0_by ∈ WG := tch_32 (List.mem_of_getElem? (i := 1) rfl) rfl
theorem we_yX0_by : Cond.selects RX0 yX0_by yX0_by ∈ WG := tch_32 (List.mem_of_getElem? (i := 2) rfl) rfl
theorem wm_yX0_by : Cond.code yX0_by cX0_by 4 none ∈ WG := tch_32 (List.mem_of_getElem? (i := 3) rfl) rfl
theorem wl_X1_97 : Cond.methodLink RX1 97 yX0_ask ∈ WG := tch_32 (List.mem_of_getElem? (i := 4) rfl) rfl
theorem wi_yX0_ask : Cond.instanceMethod yX0_ask ∈ WG := tch_32 (List.mem_of_getElem? (i := 5) rfl) rfl
theorem we_yX0_ask : Cond.selects RX0 yX0_ask yX0_ask ∈ WG := tch_32 (List.mem_of_getElem? (i := 6) rfl) rfl
theorem wm_yX0_ask : Cond.code yX0_ask cX0_ask 6 (some .int) ∈ WG := tch_32 (List.mem_of_getElem? (i := 7) rfl) rfl
theorem wl_X0_71 : Cond.methodLink RX0 71 yX0_run ∈ WG := tch_32 (List.mem_of_getElem? (i := 8) rfl) rfl
theorem wi_yX0_run : Cond.instanceMethod yX0_run ∈ WG := tch_32 (List.mem_of_getElem? (i := 10) rfl) rfl
theorem wm_yX0_run : Cond.code yX0_run cX0_run 9 (some .int) ∈ WG := tch_32 (List.mem_of_getElem? (i := 11) rfl) rfl
theorem wl_X0_96 : Cond.methodLink RX0 96 yX0_push ∈ WG := tch_32 (List.mem_of_getElem? (i := 12) rfl) rfl
theorem wi_yX0_push : Cond.instanceMethod yX0_push ∈ WG := tch_32 (List.mem_of_getElem? (i := 14) rfl) rfl
theorem wm_yX0_push : Cond.code yX0_push cX0_push 2 none ∈ WG := tch_32 (List.mem_of_getElem? (i := 15) rfl) rfl
theorem wl_X0_100 : Cond.methodLink RX0 100 yX0_pop ∈ WG := tch_32 (List.mem_of_getElem? (i := 16) rfl) rfl
theorem wi_yX0_pop : Cond.instanceMethod yX0_pop ∈ WG := tch_32 (List.mem_of_getElem? (i := 18) rfl) rfl
theorem wm_yX0_pop : Cond.code yX0_pop cX0_pop 1 (some .int) ∈ WG := tch_32 (List.mem_of_getElem? (i := 19) rfl) rfl
theorem wl_X0_104 : Cond.methodLink RX0 104 yX0_reckon ∈ WG := tch_32 (List.mem_of_getElem? (i := 20) rfl) rfl
theorem wi_yX0_reckon : Cond.instanceMethod yX0_reckon ∈ WG := tch_32 (List.mem_of_getElem? (i := 22) rfl) rfl
theorem wm_yX0_reckon : Cond.code yX0_reckon cX0_reckon 4 (some .int) ∈ WG := tch_32 (List.mem_of_getElem? (i := 23) rfl) rfl
theorem wl_X0_75 : Cond.methodLink RX0 75 yJ9_min_7cf53 ∈ WG := tch_33 (List.mem_of_getElem? (i := 0) rfl) rfl
theorem wl_X0_81 : Cond.methodLink RX0 81 yJ9_max_7cf53 ∈ WG := tch_33 (List.mem_of_getElem? (i := 1) rfl) rfl
theorem wl_X3_104 : Cond.methodLink RX3 104 yX5_wetBy ∈ WG := tch_33 (List.mem_of_getElem? (i := 2) rfl) rfl
theorem wl_X3_91 : Cond.methodLink RX3 91 yX3_endDay ∈ WG := tch_33 (List.mem_of_getElem? (i := 3) rfl) rfl
theorem wi_yX3_endDay : Cond.instanceMethod yX3_endDay ∈ WG := tch_33 (List.mem_of_getElem? (i := 4) rfl) rfl
theorem we_yX3_endDay : Cond.selects RX3 yX3_endDay yX3_endDay ∈ WG := tch_33 (List.mem_of_getElem? (i := 5) rfl) rfl
theorem wm_yX3_endDay : Cond.code yX3_endDay cX3_endDay 5 none ∈ WG := tch_33 (List.mem_of_getElem? (i := 6) rfl) rfl
theorem wl_X3_114 : Cond.methodLink RX3 114 yX1_goes ∈ WG := tch_33 (List.mem_of_getElem? (i := 7) rfl) rfl
theorem wi_yX1_goes : Cond.instanceMethod yX1_goes ∈ WG := tch_33 (List.mem_of_getElem? (i := 8) rfl) rfl
theorem we_yX1_goes : Cond.selects RX1 yX1_goes yX1_goes ∈ WG := tch_33 (List.mem_of_getElem? (i := 9) rfl) rfl
theorem wm_yX1_goes : Cond.code yX1_goes cX1_goes 4 (some .int) ∈ WG := tch_33 (List.mem_of_getElem? (i := 10) rfl) rfl
theorem wl_X1_101 : Cond.methodLink RX1 101 yX0_byNobody ∈ WG := tch_33 (List.mem_of_getElem? (i := 11) rfl) rfl
theorem wi_yX0_byNobody : Cond.instanceMethod yX0_byNobody ∈ WG := tch_33 (List.mem_of_getElem? (i := 12) rfl) rfl
theorem we_yX0_byNobody : Cond.selects RX0 yX0_byNobody yX0_byNobody ∈ WG := tch_33 (List.mem_of_getElem? (i := 13) rfl) rfl
theorem wm_yX0_byNobody : Cond.code yX0_byNobody cX0_byNobody 1 none ∈ WG := tch_33 (List.mem_of_getElem? (i := 14) rfl) rfl
theorem wl_X0_53 : Cond.methodLink RX0 53 yX0_by ∈ WG := tch_33 (List.mem_of_getElem? (i := 15) rfl) rfl
theorem wl_X3_118 : Cond.methodLink RX3 118 yX5_dryBy ∈ WG := tch_33 (List.mem_of_getElem? (i := 16) rfl) rfl
theorem wi_yX5_dryBy : Cond.instanceMethod yX5_dryBy ∈ WG := tch_33 (List.mem_of_getElem? (i := 17) rfl) rfl
theorem we_yX5_dryBy : Cond.selects RX5 yX5_dryBy yX5_dryBy ∈ WG := tch_33 (List.mem_of_getElem? (i := 18) rfl) rfl
theorem wm_yX5_dryBy : Cond.code yX5_dryBy cX5_dryBy 2 none ∈ WG := tch_33 (List.mem_of_getElem? (i := 19) rfl) rfl
theorem wl_X5_59 : Cond.methodLink RX5 59 yJ9_max_7cf53 ∈ WG := tch_33 (List.mem_of_getElem? (i := 20) rfl) rfl
theorem wl_X5_47 : Cond.methodLink RX5 47 arraycopyName ∈ WG := tch_33 (List.mem_of_getElem? (i := 21) rfl) rfl
theorem wi_arraycopyName : Cond.static arraycopyName ∈ WG := tch_33 (List.mem_of_getElem? (i := 22) rfl) rfl
theorem wnat_arraycopy : Cond.native arraycopyName ∈ WG := tch_33 (List.mem_of_getElem? (i := 23) rfl) rfl
theorem wl_L_51 : Cond.methodLink RL 51 yX11_tried ∈ WG := tch_34 (List.mem_of_getElem? (i := 0) rfl) rfl
theorem wi_yX11_tried : Cond.instanceMethod yX11_tried ∈ WG := tch_34 (List.mem_of_getElem? (i := 1) rfl) rfl
theorem we_yX11_tried : Cond.selects RX11 yX11_tried yX11_tried ∈ WG := tch_34 (List.mem_of_getElem? (i := 2) rfl) rfl
theorem wm_yX11_tried : Cond.code yX11_tried cX11_tried 3 (some .int) ∈ WG := tch_34 (List.mem_of_getElem? (i := 3) rfl) rfl
theorem wl_X11_139 : Cond.methodLink RX11 139 yX11_canTry ∈ WG := tch_34 (List.mem_of_getElem? (i := 4) rfl) rfl
theorem wi_yX11_canTry : Cond.instanceMethod yX11_canTry ∈ WG := tch_34 (List.mem_of_getElem? (i := 6) rfl) rfl
theorem wm_yX11_canTry : Cond.code yX11_canTry cX11_canTry 2 (some .boolean) ∈ WG := tch_34 (List.mem_of_getElem? (i := 7) rfl) rfl
theorem wl_X11_168 : Cond.methodLink RX11 168 yX3_isPerson ∈ WG := tch_34 (List.mem_of_getElem? (i := 8) rfl) rfl
theorem wl_X11_142 : Cond.methodLink RX11 142 yX3_copy ∈ WG := tch_34 (List.mem_of_getElem? (i := 9) rfl) rfl
theorem wi_yX3_copy : Cond.instanceMethod yX3_copy ∈ WG := tch_34 (List.mem_of_getElem? (i := 10) rfl) rfl
theorem we_yX3_copy : Cond.selects RX3 yX3_copy yX3_copy ∈ WG := tch_34 (List.mem_of_getElem? (i := 11) rfl) rfl
theorem wm_yX3_copy : Cond.code yX3_copy cX3_copy 3 none ∈ WG := tch_34 (List.mem_of_getElem? (i := 12) rfl) rfl
theorem wl_X3_29 : Cond.methodLink RX3 29 yX5_copy ∈ WG := tch_34 (List.mem_of_getElem? (i := 13) rfl) rfl
theorem wi_yX5_copy : Cond.instanceMethod yX5_copy ∈ WG := tch_34 (List.mem_of_getElem? (i := 14) rfl) rfl
theorem we_yX5_copy : Cond.selects RX5 yX5_copy yX5_copy ∈ WG := tch_34 (List.mem_of_getElem? (i := 15) rfl) rfl
theorem wm_yX5_copy : Cond.code yX5_copy cX5_copy 2 none ∈ WG := tch_34 (List.mem_of_getElem? (i := 16) rfl) rfl
theorem wl_X3_33 : Cond.methodLink RX3 33 yX4_copy ∈ WG := tch_34 (List.mem_of_getElem? (i := 17) rfl) rfl
theorem wi_yX4_copy : Cond.instanceMethod yX4_copy ∈ WG := tch_34 (List.mem_of_getElem? (i := 18) rfl) rfl
theorem we_yX4_copy : Cond.selects RX4 yX4_copy yX4_copy ∈ WG := tch_34 (List.mem_of_getElem? (i := 19) rfl) rfl
theorem wm_yX4_copy : Cond.code yX4_copy cX4_copy 2 none ∈ WG := tch_34 (List.mem_of_getElem? (i := 20) rfl) rfl
theorem wl_X11_156 : Cond.methodLink RX11 156 yX3_deadBits ∈ WG := tch_34 (List.mem_of_getElem? (i := 21) rfl) rfl
theorem wi_yX3_deadBits : Cond.instanceMethod yX3_deadBits ∈ WG := tch_34 (List.mem_of_getElem? (i := 22) rfl) rfl
theorem we_yX3_deadBits : Cond.selects RX3 yX3_deadBits yX3_deadBits ∈ WG := tch_34 (List.mem_of_getElem? (i := 23) rfl) rfl
theorem wm_yX3_deadBits : Cond.code yX3_deadBits cX3_deadBits 3 (some .int) ∈ WG := tch_35 (List.mem_of_getElem? (i := 0) rfl) rfl
theorem wl_X11_160 : Cond.methodLink RX11 160 yJ6_bitCount_0f7a4 ∈ WG := tch_35 (List.mem_of_getElem? (i := 1) rfl) rfl
theorem wi_yJ6_bitCount_0f7a4 : Cond.static yJ6_bitCount_0f7a4 ∈ WG := tch_35 (List.mem_of_getElem? (i := 2) rfl) rfl
theorem wm_yJ6_bitCount_0f7a4 : Cond.code yJ6_bitCount_0f7a4 cJ6_bitCount_0f7a4 1 (some .int) ∈ WG := tch_35 (List.mem_of_getElem? (i := 3) rfl) rfl
theorem wq_J6_265 : Cond.constant RJ6 265 (Int32.ofInt (1431655765)) ∈ WG := tch_35 (List.mem_of_getElem? (i := 4) rfl) rfl
theorem wq_J6_266 : Cond.constant RJ6 266 (Int32.ofInt (858993459)) ∈ WG := tch_35 (List.mem_of_getElem? (i := 5) rfl) rfl
theorem wq_J6_267 : Cond.constant RJ6 267 (Int32.ofInt (252645135)) ∈ WG := tch_35 (List.mem_of_getElem? (i := 6) rfl) rfl
theorem wl_L_55 : Cond.methodLink RL 55 yX11_plantIs ∈ WG := tch_35 (List.mem_of_getElem? (i := 7) rfl) rfl
theorem wi_yX11_plantIs : Cond.instanceMethod yX11_plantIs ∈ WG := tch_35 (List.mem_of_getElem? (i := 8) rfl) rfl
theorem we_yX11_plantIs : Cond.selects RX11 yX11_plantIs yX11_plantIs ∈ WG := tch_35 (List.mem_of_getElem? (i := 9) rfl) rfl
theorem wm_yX11_plantIs : Cond.code yX11_plantIs cX11_plantIs 4 (some .int) ∈ WG := tch_35 (List.mem_of_getElem? (i := 10) rfl) rfl
theorem wl_X11_186 : Cond.methodLink RX11 186 yX5_isDead ∈ WG := tch_35 (List.mem_of_getElem? (i := 11) rfl) rfl
theorem wl_X11_190 : Cond.methodLink RX11 190 yX11_cardOf ∈ WG := tch_35 (List.mem_of_getElem? (i := 12) rfl) rfl
theorem wi_yX11_cardOf : Cond.static yX11_cardOf ∈ WG := tch_35 (List.mem_of_getElem? (i := 13) rfl) rfl
theorem wm_yX11_cardOf : Cond.code yX11_cardOf cX11_cardOf 1 (some .int) ∈ WG := tch_35 (List.mem_of_getElem? (i := 14) rfl) rfl
theorem wl_L_59 : Cond.methodLink RL 59 yX11_gives ∈ WG := tch_35 (List.mem_of_getElem? (i := 15) rfl) rfl
theorem wi_yX11_gives : Cond.instanceMethod yX11_gives ∈ WG := tch_35 (List.mem_of_getElem? (i := 16) rfl) rfl
theorem we_yX11_gives : Cond.selects RX11 yX11_gives yX11_gives ∈ WG := tch_35 (List.mem_of_getElem? (i := 17) rfl) rfl
theorem wm_yX11_gives : Cond.code yX11_gives cX11_gives 3 (some .int) ∈ WG := tch_35 (List.mem_of_getElem? (i := 18) rfl) rfl
theorem wl_X11_194 : Cond.methodLink RX11 194 yX1_gift ∈ WG := tch_35 (List.mem_of_getElem? (i := 19) rfl) rfl
theorem wl_L_63 : Cond.methodLink RL 63 yX11_exactly ∈ WG := tch_35 (List.mem_of_getElem? (i := 20) rfl) rfl
theorem wi_yX11_exactly : Cond.instanceMethod yX11_exactly ∈ WG := tch_35 (List.mem_of_getElem? (i := 21) rfl) rfl
theorem we_yX11_exactly : Cond.selects RX11 yX11_exactly yX11_exactly ∈ WG := tch_35 (List.mem_of_getElem? (i := 22) rfl) rfl
theorem wm_yX11_exactly : Cond.code yX11_exactly cX11_exactly 7 (some .long) ∈ WG := tch_35 (List.mem_of_getElem? (i := 23) rfl) rfl
theorem wl_X11_198 : Cond.methodLink RX11 198 yX11_canReckon ∈ WG := tch_36 (List.mem_of_getElem? (i := 0) rfl) rfl
theorem wi_yX11_canReckon : Cond.instanceMethod yX11_canReckon ∈ WG := tch_36 (List.mem_of_getElem? (i := 2) rfl) rfl
theorem wm_yX11_canReckon : Cond.code yX11_canReckon cX11_canReckon 4 (some .boolean) ∈ WG := tch_36 (List.mem_of_getElem? (i := 3) rfl) rfl
theorem wl_X11_253 : Cond.methodLink RX11 253 yX11_areTold ∈ WG := tch_36 (List.mem_of_getElem? (i := 4) rfl) rfl
theorem wi_yX11_areTold : Cond.instanceMethod yX11_areTold ∈ WG := tch_36 (List.mem_of_getElem? (i := 6) rfl) rfl
theorem wm_yX11_areTold : Cond.code yX11_areTold cX11_areTold 2 (some .boolean) ∈ WG := tch_36 (List.mem_of_getElem? (i := 7) rfl) rfl
theorem wq_X11_201 : Cond.constantLong RX11 201 (Int64.ofInt (-1)) ∈ WG := tch_36 (List.mem_of_getElem? (i := 8) rfl) rfl
theorem wl_X11_203 : Cond.methodLink RX11 203 yX11_livesAsItIs ∈ WG := tch_36 (List.mem_of_getElem? (i := 9) rfl) rfl
theorem wi_yX11_livesAsItIs : Cond.instanceMethod yX11_livesAsItIs ∈ WG := tch_36 (List.mem_of_getElem? (i := 11) rfl) rfl
theorem wm_yX11_livesAsItIs : Cond.code yX11_livesAsItIs cX11_livesAsItIs 4 (some .long) ∈ WG := tch_36 (List.mem_of_getElem? (i := 12) rfl) rfl
theorem wl_X11_215 : Cond.methodLink RX11 215 yX2_take ∈ WG := tch_36 (List.mem_of_getElem? (i := 13) rfl) rfl
theorem wi_yX2_take : Cond.instanceMethod yX2_take ∈ WG := tch_36 (List.mem_of_getElem? (i := 14) rfl) rfl
theorem we_yX2_take : Cond.selects RX2 yX2_take yX2_take ∈ WG := tch_36 (List.mem_of_getElem? (i := 15) rfl) rfl
theorem wm_yX2_take : Cond.code yX2_take cX2_take 6 none ∈ WG := tch_36 (List.mem_of_getElem? (i := 16) rfl) rfl
theorem wl_X2_61 : Cond.methodLink RX2 61 yX2_kindOf ∈ WG := tch_36 (List.mem_of_getElem? (i := 17) rfl) rfl
theorem wi_yX2_kindOf : Cond.static yX2_kindOf ∈ WG := tch_36 (List.mem_of_getElem? (i := 18) rfl) rfl
theorem wm_yX2_kindOf : Cond.code yX2_kindOf cX2_kindOf 2 (some .int) ∈ WG := tch_36 (List.mem_of_getElem? (i := 19) rfl) rfl
theorem wl_X2_68 : Cond.methodLink RX2 68 yJ9_min_7cf53 ∈ WG := tch_36 (List.mem_of_getElem? (i := 20) rfl) rfl
theorem wl_X2_79 : Cond.methodLink RX2 79 yX3_fillLowest ∈ WG := tch_36 (List.mem_of_getElem? (i := 21) rfl) rfl
theorem wi_yX3_fillLowest : Cond.instanceMethod yX3_fillLowest ∈ WG := tch_36 (List.mem_of_getElem? (i := 22) rfl) rfl
theorem we_yX3_fillLowest : Cond.selects RX3 yX3_fillLowest yX3_fillLowest ∈ WG := tch_36 (List.mem_of_getElem? (i := 23) rfl) rfl
theorem wm_yX3_fillLowest : Cond.code yX3_fillLowest cX3_fillLowest 5 none ∈ WG := tch_37 (List.mem_of_getElem? (i := 0) rfl) rfl
theorem wl_X11_228 : Cond.methodLink RX11 228 yX2_lives ∈ WG := tch_37 (List.mem_of_getElem? (i := 1) rfl) rfl
theorem wi_yX2_lives : Cond.instanceMethod yX2_lives ∈ WG := tch_37 (List.mem_of_getElem? (i := 2) rfl) rfl
theorem we_yX2_lives : Cond.selects RX2 yX2_lives yX2_lives ∈ WG := tch_37 (List.mem_of_getElem? (i := 3) rfl) rfl
theorem wm_yX2_lives : Cond.code yX2_lives cX2_lives 9 (some .long) ∈ WG := tch_37 (List.mem_of_getElem? (i := 4) rfl) rfl
theorem wl_X2_104 : Cond.methodLink RX2 104 yX2_clear ∈ WG := tch_37 (List.mem_of_getElem? (i := 5) rfl) rfl
theorem wi_yX2_clear : Cond.instanceMethod yX2_clear ∈ WG := tch_37 (List.mem_of_getElem? (i := 7) rfl) rfl
theorem wm_yX2_clear : Cond.code yX2_clear cX2_clear 1 none ∈ WG := tch_37 (List.mem_of_getElem? (i := 8) rfl) rfl
theorem wl_X2_184 : Cond.methodLink RX2 184 yJ7_fill_d0a16 ∈ WG := tch_37 (List.mem_of_getElem? (i := 9) rfl) rfl
theorem wi_yJ7_fill_d0a16 : Cond.static yJ7_fill_d0a16 ∈ WG := tch_37 (List.mem_of_getElem? (i := 10) rfl) rfl
theorem wm_yJ7_fill_d0a16 : Cond.code yJ7_fill_d0a16 cJ7_fill_d0a16 5 none ∈ WG := tch_37 (List.mem_of_getElem? (i := 11) rfl) rfl
theorem wl_X2_107 : Cond.methodLink RX2 107 yX2_stateOf ∈ WG := tch_37 (List.mem_of_getElem? (i := 12) rfl) rfl
theorem wi_yX2_stateOf : Cond.static yX2_stateOf ∈ WG := tch_37 (List.mem_of_getElem? (i := 13) rfl) rfl
theorem wm_yX2_stateOf : Cond.code yX2_stateOf cX2_stateOf 2 (some .int) ∈ WG := tch_37 (List.mem_of_getElem? (i := 14) rfl) rfl
theorem wl_X2_110 : Cond.methodLink RX2 110 yX2_add ∈ WG := tch_37 (List.mem_of_getElem? (i := 15) rfl) rfl
theorem wi_yX2_add : Cond.instanceMethod yX2_add ∈ WG := tch_37 (List.mem_of_getElem? (i := 17) rfl) rfl
theorem wm_yX2_add : Cond.code yX2_add cX2_add 4 none ∈ WG := tch_37 (List.mem_of_getElem? (i := 18) rfl) rfl
theorem wl_X2_114 : Cond.methodLink RX2 114 yX2_goOn ∈ WG := tch_37 (List.mem_of_getElem? (i := 19) rfl) rfl
theorem wi_yX2_goOn : Cond.instanceMethod yX2_goOn ∈ WG := tch_37 (List.mem_of_getElem? (i := 21) rfl) rfl
theorem wm_yX2_goOn : Cond.code yX2_goOn cX2_goOn 3 none ∈ WG := tch_37 (List.mem_of_getElem? (i := 22) rfl) rfl
theorem wq_X2_182 : Cond.constantLong RX2 182 (Int64.ofInt (10)) ∈ WG := tch_37 (List.mem_of_getElem? (i := 23) rfl) rfl
theorem wl_X2_127 : Cond.methodLink RX2 127 yX0_ofNothing ∈ WG := tch_38 (List.mem_of_getElem? (i := 0) rfl) rfl
theorem wi_yX0_ofNothing : Cond.instanceMethod yX0_ofNothing ∈ WG := tch_38 (List.mem_of_getElem? (i := 1) rfl) rfl
theorem we_yX0_ofNothing : Cond.selects RX0 yX0_ofNothing yX0_ofNothing ∈ WG := tch_38 (List.mem_of_getElem? (i := 2) rfl) rfl
theorem wm_yX0_ofNothing : Cond.code yX0_ofNothing cX0_ofNothing 1 none ∈ WG := tch_38 (List.mem_of_getElem? (i := 3) rfl) rfl
theorem wl_X0_22 : Cond.methodLink RX0 22 yJ7_fill_53178 ∈ WG := tch_38 (List.mem_of_getElem? (i := 4) rfl) rfl
theorem wl_X2_132 : Cond.methodLink RX2 132 yX0_put ∈ WG := tch_38 (List.mem_of_getElem? (i := 5) rfl) rfl
theorem wl_X2_142 : Cond.methodLink RX2 142 yX0_onDay ∈ WG := tch_38 (List.mem_of_getElem? (i := 6) rfl) rfl
theorem wl_X2_153 : Cond.methodLink RX2 153 yX0_by ∈ WG := tch_38 (List.mem_of_getElem? (i := 7) rfl) rfl
theorem wl_X2_157 : Cond.methodLink RX2 157 yX2_comeBy ∈ WG := tch_38 (List.mem_of_getElem? (i := 8) rfl) rfl
theorem wi_yX2_comeBy : Cond.instanceMethod yX2_comeBy ∈ WG := tch_38 (List.mem_of_getElem? (i := 10) rfl) rfl
theorem wm_yX2_comeBy : Cond.code yX2_comeBy cX2_comeBy 9 none ∈ WG := tch_38 (List.mem_of_getElem? (i := 11) rfl) rfl
theorem wl_X2_190 : Cond.methodLink RX2 190 yX2_isDead ∈ WG := tch_38 (List.mem_of_getElem? (i := 12) rfl) rfl
theorem wi_yX2_isDead : Cond.instanceMethod yX2_isDead ∈ WG := tch_38 (List.mem_of_getElem? (i := 14) rfl) rfl
theorem wm_yX2_isDead : Cond.code yX2_isDead cX2_isDead 2 (some .boolean) ∈ WG := tch_38 (List.mem_of_getElem? (i := 15) rfl) rfl
theorem wl_X2_97 : Cond.methodLink RX2 97 yX2_dryOf ∈ WG := tch_38 (List.mem_of_getElem? (i := 16) rfl) rfl
theorem wi_yX2_dryOf : Cond.static yX2_dryOf ∈ WG := tch_38 (List.mem_of_getElem? (i := 17) rfl) rfl
theorem wm_yX2_dryOf : Cond.code yX2_dryOf cX2_dryOf 1 (some .int) ∈ WG := tch_38 (List.mem_of_getElem? (i := 18) rfl) rfl
theorem wl_X2_101 : Cond.methodLink RX2 101 yX2_drownedOf ∈ WG := tch_38 (List.mem_of_getElem? (i := 19) rfl) rfl
theorem wi_yX2_drownedOf : Cond.static yX2_drownedOf ∈ WG := tch_38 (List.mem_of_getElem? (i := 20) rfl) rfl
theorem wm_yX2_drownedOf : Cond.code yX2_drownedOf cX2_drownedOf 1 (some .int) ∈ WG := tch_38 (List.mem_of_getElem? (i := 21) rfl) rfl
theorem wl_X2_91 : Cond.methodLink RX2 91 yJ9_max_7cf53 ∈ WG := tch_38 (List.mem_of_getElem? (i := 22) rfl) rfl
theorem wl_X2_194 : Cond.methodLink RX2 194 yX2_lookAt ∈ WG := tch_38 (List.mem_of_getElem? (i := 23) rfl) rfl
theorem wi_yX2_lookAt : Cond.instanceMethod yX2_lookAt ∈ WG := tch_39 (List.mem_of_getElem? (i := 1) rfl) rfl
theorem wm_yX2_lookAt : Cond.code yX2_lookAt cX2_lookAt 3 none ∈ WG := tch_39 (List.mem_of_getElem? (i := 2) rfl) rfl
theorem wl_X2_198 : Cond.methodLink RX2 198 yX2_gift ∈ WG := tch_39 (List.mem_of_getElem? (i := 3) rfl) rfl
theorem wi_yX2_gift : Cond.instanceMethod yX2_gift ∈ WG := tch_39 (List.mem_of_getElem? (i := 5) rfl) rfl
theorem wm_yX2_gift : Cond.code yX2_gift cX2_gift 4 (some .int) ∈ WG := tch_39 (List.mem_of_getElem? (i := 6) rfl) rfl
theorem wl_X2_202 : Cond.methodLink RX2 202 yX0_ask ∈ WG := tch_39 (List.mem_of_getElem? (i := 7) rfl) rfl
theorem wl_X2_161 : Cond.methodLink RX2 161 yX0_byNobody ∈ WG := tch_39 (List.mem_of_getElem? (i := 8) rfl) rfl
theorem wl_X2_168 : Cond.methodLink RX2 168 yX2_goDry ∈ WG := tch_39 (List.mem_of_getElem? (i := 9) rfl) rfl
theorem wi_yX2_goDry : Cond.instanceMethod yX2_goDry ∈ WG := tch_39 (List.mem_of_getElem? (i := 11) rfl) rfl
theorem wm_yX2_goDry : Cond.code yX2_goDry cX2_goDry 9 none ∈ WG := tch_39 (List.mem_of_getElem? (i := 12) rfl) rfl
theorem wl_X2_206 : Cond.methodLink RX2 206 yX2_behind ∈ WG := tch_39 (List.mem_of_getElem? (i := 13) rfl) rfl
theorem wi_yX2_behind : Cond.instanceMethod yX2_behind ∈ WG := tch_39 (List.mem_of_getElem? (i := 15) rfl) rfl
theorem wm_yX2_behind : Cond.code yX2_behind cX2_behind 6 (some .int) ∈ WG := tch_39 (List.mem_of_getElem? (i := 16) rfl) rfl
theorem wq_X2_209 : Cond.constantLong RX2 209 (Int64.ofInt (5)) ∈ WG := tch_39 (List.mem_of_getElem? (i := 17) rfl) rfl
theorem wl_X2_172 : Cond.methodLink RX2 172 yX2_living ∈ WG := tch_39 (List.mem_of_getElem? (i := 18) rfl) rfl
theorem wi_yX2_living : Cond.instanceMethod yX2_living ∈ WG := tch_39 (List.mem_of_getElem? (i := 20) rfl) rfl
theorem wm_yX2_living : Cond.code yX2_living cX2_living 4 (some .long) ∈ WG := tch_39 (List.mem_of_getElem? (i := 21) rfl) rfl
theorem wl_X11_211 : Cond.methodLink RX11 211 yX2_wetIs ∈ WG := tch_39 (List.mem_of_getElem? (i := 22) rfl) rfl
theorem wi_yX2_wetIs : Cond.instanceMethod yX2_wetIs ∈ WG := tch_39 (List.mem_of_getElem? (i := 23) rfl) rfl
theorem we_yX2_wetIs : Cond.selects RX2 yX2_wetIs yX2_wetIs ∈ WG := tch_40 (List.mem_of_getElem? (i := 0) rfl) rfl
theorem wm_yX2_wetIs : Cond.code yX2_wetIs cX2_wetIs 5 (some .long) ∈ WG := tch_40 (List.mem_of_getElem? (i := 1) rfl) rfl
theorem wl_L_68 : Cond.methodLink RL 68 yX11_chance ∈ WG := tch_40 (List.mem_of_getElem? (i := 2) rfl) rfl
theorem wi_yX11_chance : Cond.instanceMethod yX11_chance ∈ WG := tch_40 (List.mem_of_getElem? (i := 3) rfl) rfl
theorem we_yX11_chance : Cond.selects RX11 yX11_chance yX11_chance ∈ WG := tch_40 (List.mem_of_getElem? (i := 4) rfl) rfl
theorem wm_yX11_chance : Cond.code yX11_chance cX11_chance 11 (some .long) ∈ WG := tch_40 (List.mem_of_getElem? (i := 5) rfl) rfl
theorem wl_X11_222 : Cond.methodLink RX11 222 yJ7_fill_53178 ∈ WG := tch_40 (List.mem_of_getElem? (i := 6) rfl) rfl
theorem wl_L_72 : Cond.methodLink RL 72 yX11_toAsk ∈ WG := tch_40 (List.mem_of_getElem? (i := 7) rfl) rfl
theorem wi_yX11_toAsk : Cond.instanceMethod yX11_toAsk ∈ WG := tch_40 (List.mem_of_getElem? (i := 8) rfl) rfl
theorem we_yX11_toAsk : Cond.selects RX11 yX11_toAsk yX11_toAsk ∈ WG := tch_40 (List.mem_of_getElem? (i := 9) rfl) rfl
theorem wm_yX11_toAsk : Cond.code yX11_toAsk cX11_toAsk 11 (some .long) ∈ WG := tch_40 (List.mem_of_getElem? (i := 10) rfl) rfl
theorem wl_X11_232 : Cond.methodLink RX11 232 yX2_ask ∈ WG := tch_40 (List.mem_of_getElem? (i := 11) rfl) rfl
theorem wi_yX2_ask : Cond.instanceMethod yX2_ask ∈ WG := tch_40 (List.mem_of_getElem? (i := 12) rfl) rfl
theorem we_yX2_ask : Cond.selects RX2 yX2_ask yX2_ask ∈ WG := tch_40 (List.mem_of_getElem? (i := 13) rfl) rfl
theorem wm_yX2_ask : Cond.code yX2_ask cX2_ask 3 none ∈ WG := tch_40 (List.mem_of_getElem? (i := 14) rfl) rfl
theorem wl_L_76 : Cond.methodLink RL 76 yX11_few ∈ WG := tch_40 (List.mem_of_getElem? (i := 15) rfl) rfl
theorem wi_yX11_few : Cond.instanceMethod yX11_few ∈ WG := tch_40 (List.mem_of_getElem? (i := 16) rfl) rfl
theorem we_yX11_few : Cond.selects RX11 yX11_few yX11_few ∈ WG := tch_40 (List.mem_of_getElem? (i := 17) rfl) rfl
theorem wm_yX11_few : Cond.code yX11_few cX11_few 8 (some .int) ∈ WG := tch_40 (List.mem_of_getElem? (i := 18) rfl) rfl
theorem wl_X11_238 : Cond.methodLink RX11 238 yX2_onlyFirst ∈ WG := tch_40 (List.mem_of_getElem? (i := 19) rfl) rfl
theorem wi_yX2_onlyFirst : Cond.instanceMethod yX2_onlyFirst ∈ WG := tch_40 (List.mem_of_getElem? (i := 20) rfl) rfl
theorem we_yX2_onlyFirst : Cond.selects RX2 yX2_onlyFirst yX2_onlyFirst ∈ WG := tch_40 (List.mem_of_getElem? (i := 21) rfl) rfl
theorem wm_yX2_onlyFirst : Cond.code yX2_onlyFirst cX2_onlyFirst 3 none ∈ WG := tch_40 (List.mem_of_getElem? (i := 22) rfl) rfl
theorem wq_X11_241 : Cond.constantLong RX11 241 (Int64.ofInt (10)) ∈ WG := tch_40 (List.mem_of_getElem? (i := 23) rfl) rfl
theorem wl_L_81 : Cond.methodLink RL 81 yX11_pot ∈ WG := tch_41 (List.mem_of_getElem? (i := 0) rfl) rfl
theorem wi_yX11_pot : Cond.instanceMethod yX11_pot ∈ WG := tch_41 (List.mem_of_getElem? (i := 1) rfl) rfl
theorem we_yX11_pot : Cond.selects RX11 yX11_pot yX11_pot ∈ WG := tch_41 (List.mem_of_getElem? (i := 2) rfl) rfl
theorem wm_yX11_pot : Cond.code yX11_pot cX11_pot 7 (some .long) ∈ WG := tch_41 (List.mem_of_getElem? (i := 3) rfl) rfl
theorem wq_X11_243 : Cond.constantLong RX11 243 (Int64.ofInt (-1000000000000)) ∈ WG := tch_41 (List.mem_of_getElem? (i := 4) rfl) rfl
theorem wl_L_85 : Cond.methodLink RL 85 yX11_ruleFor ∈ WG := tch_41 (List.mem_of_getElem? (i := 5) rfl) rfl
theorem wi_yX11_ruleFor : Cond.instanceMethod yX11_ruleFor ∈ WG := tch_41 (List.mem_of_getElem? (i := 6) rfl) rfl
theorem we_yX11_ruleFor : Cond.selects RX11 yX11_ruleFor yX11_ruleFor ∈ WG := tch_41 (List.mem_of_getElem? (i := 7) rfl) rfl
theorem wm_yX11_ruleFor : Cond.code yX11_ruleFor cX11_ruleFor 12 (some .long) ∈ WG := tch_41 (List.mem_of_getElem? (i := 8) rfl) rfl
theorem wl_X11_246 : Cond.methodLink RX11 246 yX2_giveBelow ∈ WG := tch_41 (List.mem_of_getElem? (i := 9) rfl) rfl
theorem wi_yX2_giveBelow : Cond.instanceMethod yX2_giveBelow ∈ WG := tch_41 (List.mem_of_getElem? (i := 10) rfl) rfl
theorem we_yX2_giveBelow : Cond.selects RX2 yX2_giveBelow yX2_giveBelow ∈ WG := tch_41 (List.mem_of_getElem? (i := 11) rfl) rfl
theorem wm_yX2_giveBelow : Cond.code yX2_giveBelow cX2_giveBelow 3 none ∈ WG := tch_41 (List.mem_of_getElem? (i := 12) rfl) rfl
theorem wl_L_90 : Cond.methodLink RL 90 yX11_lasts ∈ WG := tch_41 (List.mem_of_getElem? (i := 13) rfl) rfl
theorem wi_yX11_lasts : Cond.instanceMethod yX11_lasts ∈ WG := tch_41 (List.mem_of_getElem? (i := 14) rfl) rfl
theorem we_yX11_lasts : Cond.selects RX11 yX11_lasts yX11_lasts ∈ WG := tch_41 (List.mem_of_getElem? (i := 15) rfl) rfl
theorem wm_yX11_lasts : Cond.code yX11_lasts cX11_lasts 3 (some .int) ∈ WG := tch_41 (List.mem_of_getElem? (i := 16) rfl) rfl
theorem wl_X11_250 : Cond.methodLink RX11 250 yX11_lastsWith ∈ WG := tch_41 (List.mem_of_getElem? (i := 17) rfl) rfl
theorem wi_yX11_lastsWith : Cond.instanceMethod yX11_lastsWith ∈ WG := tch_41 (List.mem_of_getElem? (i := 19) rfl) rfl
theorem wm_yX11_lastsWith : Cond.code yX11_lastsWith cX11_lastsWith 5 (some .int) ∈ WG := tch_41 (List.mem_of_getElem? (i := 20) rfl) rfl
theorem wl_X11_361 : Cond.methodLink RX11 361 yX5_copy ∈ WG := tch_41 (List.mem_of_getElem? (i := 21) rfl) rfl
theorem wl_X11_364 : Cond.methodLink RX11 364 yX3_endDay ∈ WG := tch_41 (List.mem_of_getElem? (i := 22) rfl) rfl
theorem wl_L_94 : Cond.methodLink RL 94 yX11_needs ∈ WG := tch_41 (List.mem_of_getElem? (i := 23) rfl) rfl
theorem wi_yX11_needs : Cond.instanceMethod yX11_needs ∈ WG := tch_42 (List.mem_of_getElem? (i := 0) rfl) rfl
theorem we_yX11_needs : Cond.selects RX11 yX11_needs yX11_needs ∈ WG := tch_42 (List.mem_of_getElem? (i := 1) rfl) rfl
theorem wm_yX11_needs : Cond.code yX11_needs cX11_needs 4 (some .int) ∈ WG := tch_42 (List.mem_of_getElem? (i := 2) rfl) rfl
theorem wl_L_98 : Cond.methodLink RL 98 yX11_week ∈ WG := tch_42 (List.mem_of_getElem? (i := 3) rfl) rfl
theorem wi_yX11_week : Cond.instanceMethod yX11_week ∈ WG := tch_42 (List.mem_of_getElem? (i := 4) rfl) rfl
theorem we_yX11_week : Cond.selects RX11 yX11_week yX11_week ∈ WG := tch_42 (List.mem_of_getElem? (i := 5) rfl) rfl
theorem wm_yX11_week : Cond.code yX11_week cX11_week 4 (some .int) ∈ WG := tch_42 (List.mem_of_getElem? (i := 6) rfl) rfl
theorem wl_X11_256 : Cond.methodLink RX11 256 yX10_find ∈ WG := tch_42 (List.mem_of_getElem? (i := 7) rfl) rfl
theorem wi_yX10_find : Cond.instanceMethod yX10_find ∈ WG := tch_42 (List.mem_of_getElem? (i := 8) rfl) rfl
theorem we_yX10_find : Cond.selects RX10 yX10_find yX10_find ∈ WG := tch_42 (List.mem_of_getElem? (i := 9) rfl) rfl
theorem wm_yX10_find : Cond.code yX10_find cX10_find 5 (some .boolean) ∈ WG := tch_42 (List.mem_of_getElem? (i := 10) rfl) rfl
theorem wl_X10_32 : Cond.methodLink RX10 32 yJ9_min_7cf53 ∈ WG := tch_42 (List.mem_of_getElem? (i := 11) rfl) rfl
theorem wl_X10_41 : Cond.methodLink RX10 41 yX3_fillLowest ∈ WG := tch_42 (List.mem_of_getElem? (i := 12) rfl) rfl
theorem wl_X10_50 : Cond.methodLink RX10 50 yX10_go ∈ WG := tch_42 (List.mem_of_getElem? (i := 13) rfl) rfl
theorem wi_yX10_go : Cond.static yX10_go ∈ WG := tch_42 (List.mem_of_getElem? (i := 14) rfl) rfl
theorem wm_yX10_go : Cond.code yX10_go cX10_go 11 none ∈ WG := tch_42 (List.mem_of_getElem? (i := 15) rfl) rfl
theorem wl_X10_67 : Cond.methodLink RX10 67 yX10_takeRow ∈ WG := tch_42 (List.mem_of_getElem? (i := 16) rfl) rfl
theorem wi_yX10_takeRow : Cond.instanceMethod yX10_takeRow ∈ WG := tch_42 (List.mem_of_getElem? (i := 18) rfl) rfl
theorem wm_yX10_takeRow : Cond.code yX10_takeRow cX10_takeRow 3 none ∈ WG := tch_42 (List.mem_of_getElem? (i := 19) rfl) rfl
theorem wl_X10_57 : Cond.methodLink RX10 57 arraycopyName ∈ WG := tch_42 (List.mem_of_getElem? (i := 20) rfl) rfl
theorem wl_X10_71 : Cond.methodLink RX10 71 yX5_copy ∈ WG := tch_42 (List.mem_of_getElem? (i := 21) rfl) rfl
theorem wl_X10_84 : Cond.methodLink RX10 84 yX3_giveTo ∈ WG := tch_42 (List.mem_of_getElem? (i := 22) rfl) rfl
theorem wl_X10_88 : Cond.methodLink RX10 88 yX3_endDay ∈ WG := tch_42 (List.mem_of_getElem? (i := 23) rfl) rfl
theorem wl_X10_95 : Cond.methodLink RX10 95 yX5_isDead ∈ WG := tch_43 (List.mem_of_getElem? (i := 0) rfl) rfl
theorem wl_X11_264 : Cond.methodLink RX11 264 yX10_comer ∈ WG := tch_43 (List.mem_of_getElem? (i := 1) rfl) rfl
theorem wi_yX10_comer : Cond.instanceMethod yX10_comer ∈ WG := tch_43 (List.mem_of_getElem? (i := 2) rfl) rfl
theorem we_yX10_comer : Cond.selects RX10 yX10_comer yX10_comer ∈ WG := tch_43 (List.mem_of_getElem? (i := 3) rfl) rfl
theorem wm_yX10_comer : Cond.code yX10_comer cX10_comer 2 (some .int) ∈ WG := tch_43 (List.mem_of_getElem? (i := 4) rfl) rfl
theorem wl_L_103 : Cond.methodLink RL 103 yX11_movesOut ∈ WG := tch_43 (List.mem_of_getElem? (i := 5) rfl) rfl
theorem wi_yX11_movesOut : Cond.instanceMethod yX11_movesOut ∈ WG := tch_43 (List.mem_of_getElem? (i := 6) rfl) rfl
theorem we_yX11_movesOut : Cond.selects RX11 yX11_movesOut yX11_movesOut ∈ WG := tch_43 (List.mem_of_getElem? (i := 7) rfl) rfl
theorem wm_yX11_movesOut : Cond.code yX11_movesOut cX11_movesOut 11 (some .long) ∈ WG := tch_43 (List.mem_of_getElem? (i := 8) rfl) rfl
theorem wl_L_107 : Cond.methodLink RL 107 yX11_spread ∈ WG := tch_43 (List.mem_of_getElem? (i := 9) rfl) rfl
theorem wi_yX11_spread : Cond.instanceMethod yX11_spread ∈ WG := tch_43 (List.mem_of_getElem? (i := 10) rfl) rfl
theorem we_yX11_spread : Cond.selects RX11 yX11_spread yX11_spread ∈ WG := tch_43 (List.mem_of_getElem? (i := 11) rfl) rfl
theorem wm_yX11_spread : Cond.code yX11_spread cX11_spread 4 (some .int) ∈ WG := tch_43 (List.mem_of_getElem? (i := 12) rfl) rfl
theorem wl_X11_267 : Cond.methodLink RX11 267 yX3_toldPlants ∈ WG := tch_43 (List.mem_of_getElem? (i := 13) rfl) rfl
theorem wi_yX3_toldPlants : Cond.instanceMethod yX3_toldPlants ∈ WG := tch_43 (List.mem_of_getElem? (i := 14) rfl) rfl
theorem we_yX3_toldPlants : Cond.selects RX3 yX3_toldPlants yX3_toldPlants ∈ WG := tch_43 (List.mem_of_getElem? (i := 15) rfl) rfl
theorem wm_yX3_toldPlants : Cond.code yX3_toldPlants cX3_toldPlants 3 (some .int) ∈ WG := tch_43 (List.mem_of_getElem? (i := 16) rfl) rfl
theorem wl_X11_270 : Cond.methodLink RX11 270 yX11_fillLasting ∈ WG := tch_43 (List.mem_of_getElem? (i := 17) rfl) rfl
theorem wi_yX11_fillLasting : Cond.instanceMethod yX11_fillLasting ∈ WG := tch_43 (List.mem_of_getElem? (i := 19) rfl) rfl
theorem wm_yX11_fillLasting : Cond.code yX11_fillLasting cX11_fillLasting 4 none ∈ WG := tch_43 (List.mem_of_getElem? (i := 20) rfl) rfl
theorem wl_X11_273 : Cond.methodLink RX11 273 yX11_spreadBest ∈ WG := tch_43 (List.mem_of_getElem? (i := 21) rfl) rfl
theorem wi_yX11_spreadBest : Cond.instanceMethod yX11_spreadBest ∈ WG := tch_43 (List.mem_of_getElem? (i := 23) rfl) rfl
theorem wm_yX11_spreadBest : Cond.code yX11_spreadBest cX11_spreadBest 8 (some .int) ∈ WG := tch_44 (List.mem_of_getElem? (i := 0) rfl) rfl
theorem wl_X11_368 : Cond.methodLink RX11 368 yX11_least ∈ WG := tch_44 (List.mem_of_getElem? (i := 1) rfl) rfl
theorem wi_yX11_least : Cond.instanceMethod yX11_least ∈ WG := tch_44 (List.mem_of_getElem? (i := 3) rfl) rfl
theorem wm_yX11_least : Cond.code yX11_least cX11_least 4 (some .int) ∈ WG := tch_44 (List.mem_of_getElem? (i := 4) rfl) rfl
theorem wl_X11_323 : Cond.methodLink RX11 323 yJ9_min_7cf53 ∈ WG := tch_44 (List.mem_of_getElem? (i := 5) rfl) rfl
theorem wl_L_111 : Cond.methodLink RL 111 yX11_comes ∈ WG := tch_44 (List.mem_of_getElem? (i := 6) rfl) rfl
theorem wi_yX11_comes : Cond.instanceMethod yX11_comes ∈ WG := tch_44 (List.mem_of_getElem? (i := 7) rfl) rfl
theorem we_yX11_comes : Cond.selects RX11 yX11_comes yX11_comes ∈ WG := tch_44 (List.mem_of_getElem? (i := 8) rfl) rfl
theorem wm_yX11_comes : Cond.code yX11_comes cX11_comes 5 (some .long) ∈ WG := tch_44 (List.mem_of_getElem? (i := 9) rfl) rfl
theorem wl_X11_276 : Cond.methodLink RX11 276 yX11_fillOdds ∈ WG := tch_44 (List.mem_of_getElem? (i := 10) rfl) rfl
theorem wi_yX11_fillOdds : Cond.instanceMethod yX11_fillOdds ∈ WG := tch_44 (List.mem_of_getElem? (i := 12) rfl) rfl
theorem wm_yX11_fillOdds : Cond.code yX11_fillOdds cX11_fillOdds 7 (some .boolean) ∈ WG := tch_44 (List.mem_of_getElem? (i := 13) rfl) rfl
theorem wl_X11_388 : Cond.methodLink RX11 388 yJ7_fill_d0a16 ∈ WG := tch_44 (List.mem_of_getElem? (i := 14) rfl) rfl
theorem wl_X11_385 : Cond.methodLink RX11 385 yX8_at ∈ WG := tch_44 (List.mem_of_getElem? (i := 15) rfl) rfl
theorem wl_X11_279 : Cond.methodLink RX11 279 yX11_power ∈ WG := tch_44 (List.mem_of_getElem? (i := 16) rfl) rfl
theorem wi_yX11_power : Cond.static yX11_power ∈ WG := tch_44 (List.mem_of_getElem? (i := 17) rfl) rfl
theorem wm_yX11_power : Cond.code yX11_power cX11_power 4 (some .long) ∈ WG := tch_44 (List.mem_of_getElem? (i := 18) rfl) rfl
theorem wl_X11_282 : Cond.methodLink RX11 282 yX11_part ∈ WG := tch_44 (List.mem_of_getElem? (i := 19) rfl) rfl
theorem wi_yX11_part : Cond.static yX11_part ∈ WG := tch_44 (List.mem_of_getElem? (i := 20) rfl) rfl
theorem wm_yX11_part : Cond.code yX11_part cX11_part 12 (some .long) ∈ WG := tch_44 (List.mem_of_getElem? (i := 21) rfl) rfl
theorem wq_X11_286 : Cond.constantLong RX11 286 (Int64.ofInt (-2)) ∈ WG := tch_44 (List.mem_of_getElem? (i := 22) rfl) rfl
theorem wl_L_116 : Cond.methodLink RL 116 yX11_share ∈ WG := tch_44 (List.mem_of_getElem? (i := 23) rfl) rfl
theorem wi_yX11_share : Cond.instanceMethod yX11_share ∈ WG := tch_45 (List.mem_of_getElem? (i := 0) rfl) rfl
theorem we_yX11_share : Cond.selects RX11 yX11_share yX11_share ∈ WG := tch_45 (List.mem_of_getElem? (i := 1) rfl) rfl
theorem wm_yX11_share : Cond.code yX11_share cX11_share 5 (some .int) ∈ WG := tch_45 (List.mem_of_getElem? (i := 2) rfl) rfl
theorem wl_X11_288 : Cond.methodLink RX11 288 yX11_theOne ∈ WG := tch_45 (List.mem_of_getElem? (i := 3) rfl) rfl
theorem wi_yX11_theOne : Cond.instanceMethod yX11_theOne ∈ WG := tch_45 (List.mem_of_getElem? (i := 5) rfl) rfl
theorem wm_yX11_theOne : Cond.code yX11_theOne cX11_theOne 4 (some .int) ∈ WG := tch_45 (List.mem_of_getElem? (i := 6) rfl) rfl
theorem wl_X11_291 : Cond.methodLink RX11 291 yJ9_max_7cf53 ∈ WG := tch_45 (List.mem_of_getElem? (i := 7) rfl) rfl
theorem wl_L_120 : Cond.methodLink RL 120 yX11_rota ∈ WG := tch_45 (List.mem_of_getElem? (i := 8) rfl) rfl
theorem wi_yX11_rota : Cond.instanceMethod yX11_rota ∈ WG := tch_45 (List.mem_of_getElem? (i := 9) rfl) rfl
theorem we_yX11_rota : Cond.selects RX11 yX11_rota yX11_rota ∈ WG := tch_45 (List.mem_of_getElem? (i := 10) rfl) rfl
theorem wm_yX11_rota : Cond.code yX11_rota cX11_rota 5 (some .int) ∈ WG := tch_45 (List.mem_of_getElem? (i := 11) rfl) rfl
theorem wl_X11_299 : Cond.methodLink RX11 299 yX7_read ∈ WG := tch_45 (List.mem_of_getElem? (i := 12) rfl) rfl
theorem wi_yX7_read : Cond.instanceMethod yX7_read ∈ WG := tch_45 (List.mem_of_getElem? (i := 13) rfl) rfl
theorem we_yX7_read : Cond.selects RX7 yX7_read yX7_read ∈ WG := tch_45 (List.mem_of_getElem? (i := 14) rfl) rfl
theorem wm_yX7_read : Cond.code yX7_read cX7_read 11 (some .int) ∈ WG := tch_45 (List.mem_of_getElem? (i := 15) rfl) rfl
theorem wl_X7_19 : Cond.methodLink RX7 19 yX7_signAt ∈ WG := tch_45 (List.mem_of_getElem? (i := 16) rfl) rfl
theorem wi_yX7_signAt : Cond.static yX7_signAt ∈ WG := tch_45 (List.mem_of_getElem? (i := 17) rfl) rfl
theorem wm_yX7_signAt : Cond.code yX7_signAt cX7_signAt 3 (some .int) ∈ WG := tch_45 (List.mem_of_getElem? (i := 18) rfl) rfl
theorem wl_X7_40 : Cond.methodLink RX7 40 yX8_at ∈ WG := tch_45 (List.mem_of_getElem? (i := 19) rfl) rfl
theorem wl_X7_23 : Cond.methodLink RX7 23 yX7_dayFault ∈ WG := tch_45 (List.mem_of_getElem? (i := 20) rfl) rfl
theorem wi_yX7_dayFault : Cond.static yX7_dayFault ∈ WG := tch_45 (List.mem_of_getElem? (i := 21) rfl) rfl
theorem wm_yX7_dayFault : Cond.code yX7_dayFault cX7_dayFault 4 (some .int) ∈ WG := tch_45 (List.mem_of_getElem? (i := 22) rfl) rfl
theorem wl_X7_27 : Cond.methodLink RX7 27 yX7_isComer ∈ WG := tch_45 (List.mem_of_getElem? (i := 23) rfl) rfl
theorem wi_yX7_isComer : Cond.static yX7_isComer ∈ WG := tch_46 (List.mem_of_getElem? (i := 0) rfl) rfl
theorem wm_yX7_isComer : Cond.code yX7_isComer cX7_isComer 1 (some .boolean) ∈ WG := tch_46 (List.mem_of_getElem? (i := 1) rfl) rfl
theorem wl_X7_31 : Cond.methodLink RX7 31 yX3_isPerson ∈ WG := tch_46 (List.mem_of_getElem? (i := 2) rfl) rfl
theorem wl_X7_36 : Cond.methodLink RX7 36 yX7_add ∈ WG := tch_46 (List.mem_of_getElem? (i := 3) rfl) rfl
theorem wi_yX7_add : Cond.instanceMethod yX7_add ∈ WG := tch_46 (List.mem_of_getElem? (i := 5) rfl) rfl
theorem wm_yX7_add : Cond.code yX7_add cX7_add 4 none ∈ WG := tch_46 (List.mem_of_getElem? (i := 6) rfl) rfl
theorem wl_X11_304 : Cond.methodLink RX11 304 yX7_daysOf ∈ WG := tch_46 (List.mem_of_getElem? (i := 7) rfl) rfl
theorem wi_yX7_daysOf : Cond.instanceMethod yX7_daysOf ∈ WG := tch_46 (List.mem_of_getElem? (i := 8) rfl) rfl
theorem we_yX7_daysOf : Cond.selects RX7 yX7_daysOf yX7_daysOf ∈ WG := tch_46 (List.mem_of_getElem? (i := 9) rfl) rfl
theorem wm_yX7_daysOf : Cond.code yX7_daysOf cX7_daysOf 4 (some .int) ∈ WG := tch_46 (List.mem_of_getElem? (i := 10) rfl) rfl
theorem wl_X11_307 : Cond.methodLink RX11 307 yX11_rotaOn ∈ WG := tch_46 (List.mem_of_getElem? (i := 11) rfl) rfl
theorem wi_yX11_rotaOn : Cond.instanceMethod yX11_rotaOn ∈ WG := tch_46 (List.mem_of_getElem? (i := 13) rfl) rfl
theorem wm_yX11_rotaOn : Cond.code yX11_rotaOn cX11_rotaOn 4 (some .int) ∈ WG := tch_46 (List.mem_of_getElem? (i := 14) rfl) rfl
theorem wl_X11_372 : Cond.methodLink RX11 372 yX7_walk ∈ WG := tch_46 (List.mem_of_getElem? (i := 15) rfl) rfl
theorem wi_yX7_walk : Cond.instanceMethod yX7_walk ∈ WG := tch_46 (List.mem_of_getElem? (i := 16) rfl) rfl
theorem we_yX7_walk : Cond.selects RX7 yX7_walk yX7_walk ∈ WG := tch_46 (List.mem_of_getElem? (i := 17) rfl) rfl
theorem wm_yX7_walk : Cond.code yX7_walk cX7_walk 5 (some .int) ∈ WG := tch_46 (List.mem_of_getElem? (i := 18) rfl) rfl
theorem wl_X7_46 : Cond.methodLink RX7 46 yX3_giveTo ∈ WG := tch_46 (List.mem_of_getElem? (i := 19) rfl) rfl
theorem wl_X7_50 : Cond.methodLink RX7 50 yX3_draw ∈ WG := tch_46 (List.mem_of_getElem? (i := 20) rfl) rfl
theorem wl_X7_54 : Cond.methodLink RX7 54 yX3_endDay ∈ WG := tch_46 (List.mem_of_getElem? (i := 21) rfl) rfl
theorem wl_X7_65 : Cond.methodLink RX7 65 yX5_isDead ∈ WG := tch_46 (List.mem_of_getElem? (i := 22) rfl) rfl
theorem wl_L_124 : Cond.methodLink RL 124 yX11_alone ∈ WG := tch_46 (List.mem_of_getElem? (i := 23) rfl) rfl
theorem wi_yX11_alone : Cond.instanceMethod yX11_alone ∈ WG := tch_47 (List.mem_of_getElem? (i := 0) rfl) rfl
theorem we_yX11_alone : Cond.selects RX11 yX11_alone yX11_alone ∈ WG := tch_47 (List.mem_of_getElem? (i := 1) rfl) rfl
theorem wm_yX11_alone : Cond.code yX11_alone cX11_alone 6 (some .int) ∈ WG := tch_47 (List.mem_of_getElem? (i := 2) rfl) rfl
theorem wl_X11_310 : Cond.methodLink RX11 310 yX1_setPrices ∈ WG := tch_47 (List.mem_of_getElem? (i := 3) rfl) rfl
theorem wi_yX1_setPrices : Cond.instanceMethod yX1_setPrices ∈ WG := tch_47 (List.mem_of_getElem? (i := 4) rfl) rfl
theorem we_yX1_setPrices : Cond.selects RX1 yX1_setPrices yX1_setPrices ∈ WG := tch_47 (List.mem_of_getElem? (i := 5) rfl) rfl
theorem wm_yX1_setPrices : Cond.code yX1_setPrices cX1_setPrices 4 none ∈ WG := tch_47 (List.mem_of_getElem? (i := 6) rfl) rfl
theorem wl_X1_104 : Cond.methodLink RX1 104 yX0_ofNothing ∈ WG := tch_47 (List.mem_of_getElem? (i := 7) rfl) rfl
theorem wl_X1_107 : Cond.methodLink RX1 107 yX0_put ∈ WG := tch_47 (List.mem_of_getElem? (i := 8) rfl) rfl
theorem wl_X11_314 : Cond.methodLink RX11 314 yX11_evenTenths ∈ WG := tch_47 (List.mem_of_getElem? (i := 9) rfl) rfl
theorem wi_yX11_evenTenths : Cond.instanceMethod yX11_evenTenths ∈ WG := tch_47 (List.mem_of_getElem? (i := 11) rfl) rfl
theorem wm_yX11_evenTenths : Cond.code yX11_evenTenths cX11_evenTenths 7 (some .int) ∈ WG := tch_47 (List.mem_of_getElem? (i := 12) rfl) rfl
theorem wl_X11_317 : Cond.methodLink RX11 317 yX11_nobodyGains ∈ WG := tch_47 (List.mem_of_getElem? (i := 13) rfl) rfl
theorem wi_yX11_nobodyGains : Cond.instanceMethod yX11_nobodyGains ∈ WG := tch_47 (List.mem_of_getElem? (i := 15) rfl) rfl
theorem wm_yX11_nobodyGains : Cond.code yX11_nobodyGains cX11_nobodyGains 4 (some .boolean) ∈ WG := tch_47 (List.mem_of_getElem? (i := 16) rfl) rfl
theorem wl_X11_376 : Cond.methodLink RX11 376 yX11_worthOf ∈ WG := tch_47 (List.mem_of_getElem? (i := 17) rfl) rfl
theorem wi_yX11_worthOf : Cond.instanceMethod yX11_worthOf ∈ WG := tch_47 (List.mem_of_getElem? (i := 19) rfl) rfl
theorem wm_yX11_worthOf : Cond.code yX11_worthOf cX11_worthOf 3 (some .int) ∈ WG := tch_47 (List.mem_of_getElem? (i := 20) rfl) rfl
theorem wl_L_128 : Cond.methodLink RL 128 yX11_whoDid ∈ WG := tch_47 (List.mem_of_getElem? (i := 21) rfl) rfl
theorem wi_yX11_whoDid : Cond.instanceMethod yX11_whoDid ∈ WG := tch_47 (List.mem_of_getElem? (i := 22) rfl) rfl
theorem we_yX11_whoDid : Cond.selects RX11 yX11_whoDid yX11_whoDid ∈ WG := tch_47 (List.mem_of_getElem? (i := 23) rfl) rfl
theorem wm_yX11_whoDid : Cond.code yX11_whoDid cX11_whoDid 14 (some .long) ∈ WG := tch_48 (List.mem_of_getElem? (i := 0) rfl) rfl
theorem wl_X11_320 : Cond.methodLink RX11 320 yX11_fits ∈ WG := tch_48 (List.mem_of_getElem? (i := 1) rfl) rfl
theorem wi_yX11_fits : Cond.instanceMethod yX11_fits ∈ WG := tch_48 (List.mem_of_getElem? (i := 3) rfl) rfl
theorem wm_yX11_fits : Cond.code yX11_fits cX11_fits 3 (some .boolean) ∈ WG := tch_48 (List.mem_of_getElem? (i := 4) rfl) rfl
theorem wl_L_132 : Cond.methodLink RL 132 yX11_can ∈ WG := tch_48 (List.mem_of_getElem? (i := 5) rfl) rfl
theorem wi_yX11_can : Cond.instanceMethod yX11_can ∈ WG := tch_48 (List.mem_of_getElem? (i := 6) rfl) rfl
theorem we_yX11_can : Cond.selects RX11 yX11_can yX11_can ∈ WG := tch_48 (List.mem_of_getElem? (i := 7) rfl) rfl
theorem wm_yX11_can : Cond.code yX11_can cX11_can 11 (some .long) ∈ WG := tch_48 (List.mem_of_getElem? (i := 8) rfl) rfl
theorem wl_L_136 : Cond.methodLink RL 136 yX11_seed ∈ WG := tch_48 (List.mem_of_getElem? (i := 9) rfl) rfl
theorem wi_yX11_seed : Cond.instanceMethod yX11_seed ∈ WG := tch_48 (List.mem_of_getElem? (i := 10) rfl) rfl
theorem we_yX11_seed : Cond.selects RX11 yX11_seed yX11_seed ∈ WG := tch_48 (List.mem_of_getElem? (i := 11) rfl) rfl
theorem wm_yX11_seed : Cond.code yX11_seed cX11_seed 2 (some .boolean) ∈ WG := tch_48 (List.mem_of_getElem? (i := 12) rfl) rfl
theorem wq_X11_326 : Cond.constant RX11 326 (Int32.ofInt (65535)) ∈ WG := tch_48 (List.mem_of_getElem? (i := 13) rfl) rfl
theorem wl_L_141 : Cond.methodLink RL 141 yX11_keep ∈ WG := tch_48 (List.mem_of_getElem? (i := 14) rfl) rfl
theorem wi_yX11_keep : Cond.instanceMethod yX11_keep ∈ WG := tch_48 (List.mem_of_getElem? (i := 15) rfl) rfl
theorem we_yX11_keep : Cond.selects RX11 yX11_keep yX11_keep ∈ WG := tch_48 (List.mem_of_getElem? (i := 16) rfl) rfl
theorem wm_yX11_keep : Cond.code yX11_keep cX11_keep 3 (some .int) ∈ WG := tch_48 (List.mem_of_getElem? (i := 17) rfl) rfl
theorem wl_L_146 : Cond.methodLink RL 146 yX11_undo ∈ WG := tch_48 (List.mem_of_getElem? (i := 18) rfl) rfl
theorem wi_yX11_undo : Cond.instanceMethod yX11_undo ∈ WG := tch_48 (List.mem_of_getElem? (i := 19) rfl) rfl
theorem we_yX11_undo : Cond.selects RX11 yX11_undo yX11_undo ∈ WG := tch_48 (List.mem_of_getElem? (i := 20) rfl) rfl
theorem wm_yX11_undo : Cond.code yX11_undo cX11_undo 1 (some .boolean) ∈ WG := tch_48 (List.mem_of_getElem? (i := 21) rfl) rfl
theorem wl_L_151 : Cond.methodLink RL 151 yX11_check ∈ WG := tch_48 (List.mem_of_getElem? (i := 22) rfl) rfl
theorem wi_yX11_check : Cond.instanceMethod yX11_check ∈ WG := tch_48 (List.mem_of_getElem? (i := 23) rfl) rfl
theorem we_yX11_check : Cond.selects RX11 yX11_check yX11_check ∈ WG := tch_49 (List.mem_of_getElem? (i := 0) rfl) rfl
theorem wm_yX11_check : Cond.code yX11_check cX11_check 5 (some .int) ∈ WG := tch_49 (List.mem_of_getElem? (i := 1) rfl) rfl
theorem wl_X11_333 : Cond.methodLink RX11 333 yX8_number ∈ WG := tch_49 (List.mem_of_getElem? (i := 2) rfl) rfl
theorem wi_yX8_number : Cond.instanceMethod yX8_number ∈ WG := tch_49 (List.mem_of_getElem? (i := 3) rfl) rfl
theorem we_yX8_number : Cond.selects RX8 yX8_number yX8_number ∈ WG := tch_49 (List.mem_of_getElem? (i := 4) rfl) rfl
theorem wm_yX8_number : Cond.code yX8_number cX8_number 4 (some .int) ∈ WG := tch_49 (List.mem_of_getElem? (i := 5) rfl) rfl
theorem wl_X8_19 : Cond.methodLink RX8 19 yX8_at ∈ WG := tch_49 (List.mem_of_getElem? (i := 6) rfl) rfl
theorem wl_L_155 : Cond.methodLink RL 155 yX11_count ∈ WG := tch_49 (List.mem_of_getElem? (i := 7) rfl) rfl
theorem wi_yX11_count : Cond.instanceMethod yX11_count ∈ WG := tch_49 (List.mem_of_getElem? (i := 8) rfl) rfl
theorem we_yX11_count : Cond.selects RX11 yX11_count yX11_count ∈ WG := tch_49 (List.mem_of_getElem? (i := 9) rfl) rfl
theorem wm_yX11_count : Cond.code yX11_count cX11_count 2 (some .int) ∈ WG := tch_49 (List.mem_of_getElem? (i := 10) rfl) rfl
theorem wl_X11_343 : Cond.methodLink RX11 343 yX11_countPerson ∈ WG := tch_49 (List.mem_of_getElem? (i := 11) rfl) rfl
theorem wi_yX11_countPerson : Cond.instanceMethod yX11_countPerson ∈ WG := tch_49 (List.mem_of_getElem? (i := 13) rfl) rfl
theorem wm_yX11_countPerson : Cond.code yX11_countPerson cX11_countPerson 3 (some .int) ∈ WG := tch_49 (List.mem_of_getElem? (i := 14) rfl) rfl
theorem wl_X11_346 : Cond.methodLink RX11 346 yX3_toldPeople ∈ WG := tch_49 (List.mem_of_getElem? (i := 15) rfl) rfl
theorem wi_yX3_toldPeople : Cond.instanceMethod yX3_toldPeople ∈ WG := tch_49 (List.mem_of_getElem? (i := 16) rfl) rfl
theorem we_yX3_toldPeople : Cond.selects RX3 yX3_toldPeople yX3_toldPeople ∈ WG := tch_49 (List.mem_of_getElem? (i := 17) rfl) rfl
theorem wm_yX3_toldPeople : Cond.code yX3_toldPeople cX3_toldPeople 3 (some .int) ∈ WG := tch_49 (List.mem_of_getElem? (i := 18) rfl) rfl
theorem wk_L_10 : Cond.classLink RL 10 RX12 ∈ WG := tch_49 (List.mem_of_getElem? (i := 19) rfl) rfl
theorem wt_X12 : Cond.instantiable RX12 54 ∈ WG := tch_49 (List.mem_of_getElem? (i := 20) rfl) rfl
theorem wl_L_12 : Cond.methodLink RL 12 yX12_init ∈ WG := tch_49 (List.mem_of_getElem? (i := 21) rfl) rfl
theorem wi_yX12_init : Cond.instanceMethod yX12_init ∈ WG := tch_49 (List.mem_of_getElem? (i := 22) rfl) rfl
theorem wm_yX12_init : Cond.code yX12_init cX12_init 1 none ∈ WG := tch_49 (List.mem_of_getElem? (i := 23) rfl) rfl
theorem wl_X12_1 : Cond.methodLink RX12 1 objectInit ∈ WG := tch_50 (List.mem_of_getElem? (i := 0) rfl) rfl
theorem wf_X12_7 : Cond.fieldLink RX12 7 (TX12 0).1 (TX12 0).2.1 (TX12 0).2.2.1 ∈ WG := tch_50 (List.mem_of_getElem? (i := 1) rfl) rfl
theorem wf_X12_13 : Cond.fieldLink RX12 13 (TX12 1).1 (TX12 1).2.1 (TX12 1).2.2.1 ∈ WG := tch_50 (List.mem_of_getElem? (i := 2) rfl) rfl
theorem wf_X12_16 : Cond.fieldLink RX12 16 (TX12 2).1 (TX12 2).2.1 (TX12 2).2.2.1 ∈ WG := tch_50 (List.mem_of_getElem? (i := 3) rfl) rfl
theorem wf_X12_19 : Cond.fieldLink RX12 19 (TX12 3).1 (TX12 3).2.1 (TX12 3).2.2.1 ∈ WG := tch_50 (List.mem_of_getElem? (i := 4) rfl) rfl
theorem wf_X12_137 : Cond.fieldLink RX12 137 (TX12 4).1 (TX12 4).2.1 (TX12 4).2.2.1 ∈ WG := tch_50 (List.mem_of_getElem? (i := 5) rfl) rfl
theorem wf_X12_144 : Cond.fieldLink RX12 144 (TX12 5).1 (TX12 5).2.1 (TX12 5).2.2.1 ∈ WG := tch_50 (List.mem_of_getElem? (i := 6) rfl) rfl
theorem wf_X12_147 : Cond.fieldLink RX12 147 (TX12 6).1 (TX12 6).2.1 (TX12 6).2.2.1 ∈ WG := tch_50 (List.mem_of_getElem? (i := 7) rfl) rfl
theorem wf_X12_154 : Cond.fieldLink RX12 154 (TX12 7).1 (TX12 7).2.1 (TX12 7).2.2.1 ∈ WG := tch_50 (List.mem_of_getElem? (i := 8) rfl) rfl
theorem wf_X12_160 : Cond.fieldLink RX12 160 (TX12 8).1 (TX12 8).2.1 (TX12 8).2.2.1 ∈ WG := tch_50 (List.mem_of_getElem? (i := 9) rfl) rfl
theorem wf_X12_171 : Cond.fieldLink RX12 171 (TX12 9).1 (TX12 9).2.1 (TX12 9).2.2.1 ∈ WG := tch_50 (List.mem_of_getElem? (i := 10) rfl) rfl
theorem wf_X12_167 : Cond.fieldLink RX12 167 (TX12 10).1 (TX12 10).2.1 (TX12 10).2.2.1 ∈ WG := tch_50 (List.mem_of_getElem? (i := 11) rfl) rfl
theorem wf_X12_174 : Cond.fieldLink RX12 174 (TX12 11).1 (TX12 11).2.1 (TX12 11).2.2.1 ∈ WG := tch_50 (List.mem_of_getElem? (i := 12) rfl) rfl
theorem wf_X12_225 : Cond.fieldLink RX12 225 (TX12 12).1 (TX12 12).2.1 (TX12 12).2.2.1 ∈ WG := tch_50 (List.mem_of_getElem? (i := 13) rfl) rfl
theorem wf_X12_23 : Cond.fieldLink RX12 23 (TX12 13).1 (TX12 13).2.1 (TX12 13).2.2.1 ∈ WG := tch_50 (List.mem_of_getElem? (i := 14) rfl) rfl
theorem wf_X12_26 : Cond.fieldLink RX12 26 (TX12 14).1 (TX12 14).2.1 (TX12 14).2.2.1 ∈ WG := tch_50 (List.mem_of_getElem? (i := 15) rfl) rfl
theorem wf_X12_29 : Cond.fieldLink RX12 29 (TX12 15).1 (TX12 15).2.1 (TX12 15).2.2.1 ∈ WG := tch_50 (List.mem_of_getElem? (i := 16) rfl) rfl
theorem wf_X12_32 : Cond.fieldLink RX12 32 (TX12 16).1 (TX12 16).2.1 (TX12 16).2.2.1 ∈ WG := tch_50 (List.mem_of_getElem? (i := 17) rfl) rfl
theorem wf_X12_35 : Cond.fieldLink RX12 35 (TX12 17).1 (TX12 17).2.1 (TX12 17).2.2.1 ∈ WG := tch_50 (List.mem_of_getElem? (i := 18) rfl) rfl
theorem wf_X12_38 : Cond.fieldLink RX12 38 (TX12 18).1 (TX12 18).2.1 (TX12 18).2.2.1 ∈ WG := tch_50 (List.mem_of_getElem? (i := 19) rfl) rfl
theorem wf_X12_41 : Cond.fieldLink RX12 41 (TX12 19).1 (TX12 19).2.1 (TX12 19).2.2.1 ∈ WG := tch_50 (List.mem_of_getElem? (i := 20) rfl) rfl
theorem wf_X12_44 : Cond.fieldLink RX12 44 (TX12 20).1 (TX12 20).2.1 (TX12 20).2.2.1 ∈ WG := tch_50 (List.mem_of_getElem? (i := 21) rfl) rfl
theorem wf_X12_47 : Cond.fieldLink RX12 47 (TX12 21).1 (TX12 21).2.1 (TX12 21).2.2.1 ∈ WG := tch_50 (List.mem_of_getElem? (i := 22) rfl) rfl
theorem wf_X12_50 : Cond.fieldLink RX12 50 (TX12 22).1 (TX12 22).2.1 (TX12 22).2.2.1 ∈ WG := tch_50 (List.mem_of_getElem? (i := 23) rfl) rfl
theorem wf_X12_53 : Cond.fieldLink RX12 53 (TX12 23).1 (TX12 23).2.1 (TX12 23).2.2.1 ∈ WG := tch_51 (List.mem_of_getElem? (i := 0) rfl) rfl
theorem wf_X12_56 : Cond.fieldLink RX12 56 (TX12 24).1 (TX12 24).2.1 (TX12 24).2.2.1 ∈ WG := tch_51 (List.mem_of_getElem? (i := 1) rfl) rfl
theorem wf_X12_59 : Cond.fieldLink RX12 59 (TX12 25).1 (TX12 25).2.1 (TX12 25).2.2.1 ∈ WG := tch_51 (List.mem_of_getElem? (i := 2) rfl) rfl
theorem wf_X12_62 : Cond.fieldLink RX12 62 (TX12 26).1 (TX12 26).2.1 (TX12 26).2.2.1 ∈ WG := tch_51 (List.mem_of_getElem? (i := 3) rfl) rfl
theorem wf_X12_266 : Cond.fieldLink RX12 266 (TX12 27).1 (TX12 27).2.1 (TX12 27).2.2.1 ∈ WG := tch_51 (List.mem_of_getElem? (i := 4) rfl) rfl
theorem wf_X12_269 : Cond.fieldLink RX12 269 (TX12 28).1 (TX12 28).2.1 (TX12 28).2.2.1 ∈ WG := tch_51 (List.mem_of_getElem? (i := 5) rfl) rfl
theorem wf_X12_281 : Cond.fieldLink RX12 281 (TX12 29).1 (TX12 29).2.1 (TX12 29).2.2.1 ∈ WG := tch_51 (List.mem_of_getElem? (i := 6) rfl) rfl
theorem wf_X12_65 : Cond.fieldLink RX12 65 (TX12 30).1 (TX12 30).2.1 (TX12 30).2.2.1 ∈ WG := tch_51 (List.mem_of_getElem? (i := 7) rfl) rfl
theorem wf_X12_108 : Cond.fieldLink RX12 108 (TX12 31).1 (TX12 31).2.1 (TX12 31).2.2.1 ∈ WG := tch_51 (List.mem_of_getElem? (i := 8) rfl) rfl
theorem wf_X12_310 : Cond.fieldLink RX12 310 (TX12 32).1 (TX12 32).2.1 (TX12 32).2.2.1 ∈ WG := tch_51 (List.mem_of_getElem? (i := 9) rfl) rfl
theorem wf_X12_298 : Cond.fieldLink RX12 298 (TX12 33).1 (TX12 33).2.1 (TX12 33).2.2.1 ∈ WG := tch_51 (List.mem_of_getElem? (i := 10) rfl) rfl
theorem wf_X12_301 : Cond.fieldLink RX12 301 (TX12 34).1 (TX12 34).2.1 (TX12 34).2.2.1 ∈ WG := tch_51 (List.mem_of_getElem? (i := 11) rfl) rfl
theorem wf_X12_68 : Cond.fieldLink RX12 68 (TX12 35).1 (TX12 35).2.1 (TX12 35).2.2.1 ∈ WG := tch_51 (List.mem_of_getElem? (i := 12) rfl) rfl
theorem wf_X12_71 : Cond.fieldLink RX12 71 (TX12 36).1 (TX12 36).2.1 (TX12 36).2.2.1 ∈ WG := tch_51 (List.mem_of_getElem? (i := 13) rfl) rfl
theorem wf_X12_74 : Cond.fieldLink RX12 74 (TX12 37).1 (TX12 37).2.1 (TX12 37).2.2.1 ∈ WG := tch_51 (List.mem_of_getElem? (i := 14) rfl) rfl
theorem wf_X12_78 : Cond.fieldLink RX12 78 (TX12 38).1 (TX12 38).2.1 (TX12 38).2.2.1 ∈ WG := tch_51 (List.mem_of_getElem? (i := 15) rfl) rfl
theorem wf_X12_321 : Cond.fieldLink RX12 321 (TX12 39).1 (TX12 39).2.1 (TX12 39).2.2.1 ∈ WG := tch_51 (List.mem_of_getElem? (i := 16) rfl) rfl
theorem wf_X12_81 : Cond.fieldLink RX12 81 (TX12 40).1 (TX12 40).2.1 (TX12 40).2.2.1 ∈ WG := tch_51 (List.mem_of_getElem? (i := 17) rfl) rfl
theorem wf_X12_84 : Cond.fieldLink RX12 84 (TX12 41).1 (TX12 41).2.1 (TX12 41).2.2.1 ∈ WG := tch_51 (List.mem_of_getElem? (i := 18) rfl) rfl
theorem wf_X12_87 : Cond.fieldLink RX12 87 (TX12 42).1 (TX12 42).2.1 (TX12 42).2.2.1 ∈ WG := tch_51 (List.mem_of_getElem? (i := 19) rfl) rfl
theorem wf_X12_90 : Cond.fieldLink RX12 90 (TX12 43).1 (TX12 43).2.1 (TX12 43).2.2.1 ∈ WG := tch_51 (List.mem_of_getElem? (i := 20) rfl) rfl
theorem wf_X12_93 : Cond.fieldLink RX12 93 (TX12 44).1 (TX12 44).2.1 (TX12 44).2.2.1 ∈ WG := tch_51 (List.mem_of_getElem? (i := 21) rfl) rfl
theorem wf_X12_96 : Cond.fieldLink RX12 96 (TX12 45).1 (TX12 45).2.1 (TX12 45).2.2.1 ∈ WG := tch_51 (List.mem_of_getElem? (i := 22) rfl) rfl
theorem wf_X12_392 : Cond.fieldLink RX12 392 (TX12 46).1 (TX12 46).2.1 (TX12 46).2.2.1 ∈ WG := tch_51 (List.mem_of_getElem? (i := 23) rfl) rfl
theorem wf_X12_389 : Cond.fieldLink RX12 389 (TX12 47).1 (TX12 47).2.1 (TX12 47).2.2.1 ∈ WG := tch_52 (List.mem_of_getElem? (i := 0) rfl) rfl
theorem wf_X12_99 : Cond.fieldLink RX12 99 (TX12 48).1 (TX12 48).2.1 (TX12 48).2.2.1 ∈ WG := tch_52 (List.mem_of_getElem? (i := 1) rfl) rfl
theorem wf_X12_395 : Cond.fieldLink RX12 395 (TX12 49).1 (TX12 49).2.1 (TX12 49).2.2.1 ∈ WG := tch_52 (List.mem_of_getElem? (i := 2) rfl) rfl
theorem wf_X12_398 : Cond.fieldLink RX12 398 (TX12 50).1 (TX12 50).2.1 (TX12 50).2.2.1 ∈ WG := tch_52 (List.mem_of_getElem? (i := 3) rfl) rfl
theorem wf_X12_102 : Cond.fieldLink RX12 102 (TX12 51).1 (TX12 51).2.1 (TX12 51).2.2.1 ∈ WG := tch_52 (List.mem_of_getElem? (i := 4) rfl) rfl
theorem wf_X12_105 : Cond.fieldLink RX12 105 (TX12 52).1 (TX12 52).2.1 (TX12 52).2.2.1 ∈ WG := tch_52 (List.mem_of_getElem? (i := 5) rfl) rfl
theorem wf_X12_417 : Cond.fieldLink RX12 417 (TX12 53).1 (TX12 53).2.1 (TX12 53).2.2.1 ∈ WG := tch_52 (List.mem_of_getElem? (i := 6) rfl) rfl
theorem wl_L_17 : Cond.methodLink RL 17 yX12_plant ∈ WG := tch_56 (List.mem_of_getElem? (i := 20) rfl) rfl
theorem wi_yX12_plant : Cond.instanceMethod yX12_plant ∈ WG := tch_56 (List.mem_of_getElem? (i := 21) rfl) rfl
theorem we_yX12_plant : Cond.selects RX12 yX12_plant yX12_plant ∈ WG := tch_56 (List.mem_of_getElem? (i := 22) rfl) rfl
theorem wm_yX12_plant : Cond.code yX12_plant cX12_plant 6 (some .boolean) ∈ WG := tch_56 (List.mem_of_getElem? (i := 23) rfl) rfl
theorem wl_X12_126 : Cond.methodLink RX12 126 yX12_in ∈ WG := tch_57 (List.mem_of_getElem? (i := 0) rfl) rfl
theorem wi_yX12_in : Cond.static yX12_in ∈ WG := tch_57 (List.mem_of_getElem? (i := 1) rfl) rfl
theorem wm_yX12_in : Cond.code yX12_in cX12_in 3 (some .boolean) ∈ WG := tch_57 (List.mem_of_getElem? (i := 2) rfl) rfl
theorem wl_L_22 : Cond.methodLink RL 22 yX12_person ∈ WG := tch_57 (List.mem_of_getElem? (i := 3) rfl) rfl
theorem wi_yX12_person : Cond.instanceMethod yX12_person ∈ WG := tch_57 (List.mem_of_getElem? (i := 4) rfl) rfl
theorem we_yX12_person : Cond.selects RX12 yX12_person yX12_person ∈ WG := tch_57 (List.mem_of_getElem? (i := 5) rfl) rfl
theorem wm_yX12_person : Cond.code yX12_person cX12_person 4 (some .boolean) ∈ WG := tch_57 (List.mem_of_getElem? (i := 6) rfl) rfl
theorem wl_L_27 : Cond.methodLink RL 27 yX12_card ∈ WG := tch_57 (List.mem_of_getElem? (i := 7) rfl) rfl
theorem wi_yX12_card : Cond.instanceMethod yX12_card ∈ WG := tch_57 (List.mem_of_getElem? (i := 8) rfl) rfl
theorem we_yX12_card : Cond.selects RX12 yX12_card yX12_card ∈ WG := tch_57 (List.mem_of_getElem? (i := 9) rfl) rfl
theorem wm_yX12_card : Cond.code yX12_card cX12_card 3 (some .boolean) ∈ WG := tch_57 (List.mem_of_getElem? (i := 10) rfl) rfl
theorem wl_X12_122 : Cond.methodLink RX12 122 yX12_isPlant ∈ WG := tch_57 (List.mem_of_getElem? (i := 11) rfl) rfl
theorem wi_yX12_isPlant : Cond.instanceMethod yX12_isPlant ∈ WG := tch_57 (List.mem_of_getElem? (i := 13) rfl) rfl
theorem wm_yX12_isPlant : Cond.code yX12_isPlant cX12_isPlant 2 (some .boolean) ∈ WG := tch_57 (List.mem_of_getElem? (i := 14) rfl) rfl
theorem wl_X12_118 : Cond.methodLink RX12 118 yX12_has ∈ WG := tch_57 (List.mem_of_getElem? (i := 15) rfl) rfl
theorem wi_yX12_has : Cond.static yX12_has ∈ WG := tch_57 (List.mem_of_getElem? (i := 16) rfl) rfl
theorem wm_yX12_has : Cond.code yX12_has cX12_has 2 (some .boolean) ∈ WG := tch_57 (List.mem_of_getElem? (i := 17) rfl) rfl
theorem wl_L_32 : Cond.methodLink RL 32 yX12_pour ∈ WG := tch_57 (List.mem_of_getElem? (i := 18) rfl) rfl
theorem wi_yX12_pour : Cond.instanceMethod yX12_pour ∈ WG := tch_57 (List.mem_of_getElem? (i := 19) rfl) rfl
theorem we_yX12_pour : Cond.selects RX12 yX12_pour yX12_pour ∈ WG := tch_57 (List.mem_of_getElem? (i := 20) rfl) rfl
theorem wm_yX12_pour : Cond.code yX12_pour cX12_pour 3 (some .int) ∈ WG := tch_57 (List.mem_of_getElem? (i := 21) rfl) rfl
theorem wl_X12_130 : Cond.methodLink RX12 130 yX12_lives ∈ WG := tch_57 (List.mem_of_getElem? (i := 22) rfl) rfl
theorem wi_yX12_lives : Cond.instanceMethod yX12_lives ∈ WG := tch_58 (List.mem_of_getElem? (i := 0) rfl) rfl
theorem wm_yX12_lives : Cond.code yX12_lives cX12_lives 2 (some .boolean) ∈ WG := tch_58 (List.mem_of_getElem? (i := 1) rfl) rfl
theorem wl_X12_133 : Cond.methodLink RX12 133 yX12_min ∈ WG := tch_58 (List.mem_of_getElem? (i := 2) rfl) rfl
theorem wi_yX12_min : Cond.static yX12_min ∈ WG := tch_58 (List.mem_of_getElem? (i := 3) rfl) rfl
theorem wm_yX12_min : Cond.code yX12_min cX12_min 2 (some .int) ∈ WG := tch_58 (List.mem_of_getElem? (i := 4) rfl) rfl
theorem wl_L_37 : Cond.methodLink RL 37 yX12_feed ∈ WG := tch_58 (List.mem_of_getElem? (i := 5) rfl) rfl
theorem wi_yX12_feed : Cond.instanceMethod yX12_feed ∈ WG := tch_58 (List.mem_of_getElem? (i := 6) rfl) rfl
theorem we_yX12_feed : Cond.selects RX12 yX12_feed yX12_feed ∈ WG := tch_58 (List.mem_of_getElem? (i := 7) rfl) rfl
theorem wm_yX12_feed : Cond.code yX12_feed cX12_feed 6 (some .int) ∈ WG := tch_58 (List.mem_of_getElem? (i := 8) rfl) rfl
theorem wl_X12_140 : Cond.methodLink RX12 140 yX12_types ∈ WG := tch_58 (List.mem_of_getElem? (i := 9) rfl) rfl
theorem wi_yX12_types : Cond.instanceMethod yX12_types ∈ WG := tch_58 (List.mem_of_getElem? (i := 11) rfl) rfl
theorem wm_yX12_types : Cond.code yX12_types cX12_types 3 none ∈ WG := tch_58 (List.mem_of_getElem? (i := 12) rfl) rfl
theorem wl_L_42 : Cond.methodLink RL 42 yX12_law ∈ WG := tch_58 (List.mem_of_getElem? (i := 13) rfl) rfl
theorem wi_yX12_law : Cond.instanceMethod yX12_law ∈ WG := tch_58 (List.mem_of_getElem? (i := 14) rfl) rfl
theorem we_yX12_law : Cond.selects RX12 yX12_law yX12_law ∈ WG := tch_58 (List.mem_of_getElem? (i := 15) rfl) rfl
theorem wm_yX12_law : Cond.code yX12_law cX12_law 2 (some .int) ∈ WG := tch_58 (List.mem_of_getElem? (i := 16) rfl) rfl
theorem wl_X12_237 : Cond.methodLink RX12 237 yX12_reads ∈ WG := tch_58 (List.mem_of_getElem? (i := 17) rfl) rfl
theorem wi_yX12_reads : Cond.instanceMethod yX12_reads ∈ WG := tch_58 (List.mem_of_getElem? (i := 19) rfl) rfl
theorem wm_yX12_reads : Cond.code yX12_reads cX12_reads 6 (some .int) ∈ WG := tch_58 (List.mem_of_getElem? (i := 20) rfl) rfl
theorem wl_X12_231 : Cond.methodLink RX12 231 yX12_readsClause ∈ WG := tch_58 (List.mem_of_getElem? (i := 21) rfl) rfl
theorem wi_yX12_readsClause : Cond.instanceMethod yX12_readsClause ∈ WG := tch_58 (List.mem_of_getElem? (i := 23) rfl) rfl
theorem wm_yX12_readsClause : Cond.code yX12_readsClause cX12_readsClause 3 (some .boolean) ∈ WG := tch_59 (List.mem_of_getElem? (i := 0) rfl) rfl
theorem wl_X12_150 : Cond.methodLink RX12 150 yX12_here ∈ WG := tch_59 (List.mem_of_getElem? (i := 1) rfl) rfl
theorem wi_yX12_here : Cond.instanceMethod yX12_here ∈ WG := tch_59 (List.mem_of_getElem? (i := 3) rfl) rfl
theorem wm_yX12_here : Cond.code yX12_here cX12_here 1 (some .int) ∈ WG := tch_59 (List.mem_of_getElem? (i := 4) rfl) rfl
theorem wl_X12_222 : Cond.methodLink RX12 222 yX12_isClause ∈ WG := tch_59 (List.mem_of_getElem? (i := 5) rfl) rfl
theorem wi_yX12_isClause : Cond.static yX12_isClause ∈ WG := tch_59 (List.mem_of_getElem? (i := 6) rfl) rfl
theorem wm_yX12_isClause : Cond.code yX12_isClause cX12_isClause 2 (some .boolean) ∈ WG := tch_59 (List.mem_of_getElem? (i := 7) rfl) rfl
theorem wl_X12_157 : Cond.methodLink RX12 157 yX12_wrongAt ∈ WG := tch_59 (List.mem_of_getElem? (i := 8) rfl) rfl
theorem wi_yX12_wrongAt : Cond.instanceMethod yX12_wrongAt ∈ WG := tch_59 (List.mem_of_getElem? (i := 10) rfl) rfl
theorem wm_yX12_wrongAt : Cond.code yX12_wrongAt cX12_wrongAt 3 (some .boolean) ∈ WG := tch_59 (List.mem_of_getElem? (i := 11) rfl) rfl
theorem wl_X12_207 : Cond.methodLink RX12 207 yX12_readsSum ∈ WG := tch_59 (List.mem_of_getElem? (i := 12) rfl) rfl
theorem wi_yX12_readsSum : Cond.instanceMethod yX12_readsSum ∈ WG := tch_59 (List.mem_of_getElem? (i := 14) rfl) rfl
theorem wm_yX12_readsSum : Cond.code yX12_readsSum cX12_readsSum 3 (some .boolean) ∈ WG := tch_59 (List.mem_of_getElem? (i := 15) rfl) rfl
theorem wl_X12_194 : Cond.methodLink RX12 194 yX12_readsFactor ∈ WG := tch_59 (List.mem_of_getElem? (i := 16) rfl) rfl
theorem wi_yX12_readsFactor : Cond.instanceMethod yX12_readsFactor ∈ WG := tch_59 (List.mem_of_getElem? (i := 18) rfl) rfl
theorem wm_yX12_readsFactor : Cond.code yX12_readsFactor cX12_readsFactor 2 (some .boolean) ∈ WG := tch_59 (List.mem_of_getElem? (i := 19) rfl) rfl
theorem wl_X12_184 : Cond.methodLink RX12 184 yX12_opens ∈ WG := tch_59 (List.mem_of_getElem? (i := 20) rfl) rfl
theorem wi_yX12_opens : Cond.instanceMethod yX12_opens ∈ WG := tch_59 (List.mem_of_getElem? (i := 22) rfl) rfl
theorem wm_yX12_opens : Cond.code yX12_opens cX12_opens 2 (some .boolean) ∈ WG := tch_59 (List.mem_of_getElem? (i := 23) rfl) rfl
theorem wq_X12_170 : Cond.constant RX12 170 (Int32.ofInt (1048576)) ∈ WG := tch_60 (List.mem_of_getElem? (i := 0) rfl) rfl
theorem wl_X12_163 : Cond.methodLink RX12 163 yX12_isDigit ∈ WG := tch_60 (List.mem_of_getElem? (i := 1) rfl) rfl
theorem wi_yX12_isDigit : Cond.instanceMethod yX12_isDigit ∈ WG := tch_60 (List.mem_of_getElem? (i := 3) rfl) rfl
theorem wm_yX12_isDigit : Cond.code yX12_isDigit cX12_isDigit 1 (some .boolean) ∈ WG := tch_60 (List.mem_of_getElem? (i := 4) rfl) rfl
theorem wl_X12_187 : Cond.methodLink RX12 187 yX12_readsNumber ∈ WG := tch_60 (List.mem_of_getElem? (i := 5) rfl) rfl
theorem wi_yX12_readsNumber : Cond.instanceMethod yX12_readsNumber ∈ WG := tch_60 (List.mem_of_getElem? (i := 7) rfl) rfl
theorem wm_yX12_readsNumber : Cond.code yX12_readsNumber cX12_readsNumber 2 (some .boolean) ∈ WG := tch_60 (List.mem_of_getElem? (i := 8) rfl) rfl
theorem wl_X12_180 : Cond.methodLink RX12 180 yX12_notes ∈ WG := tch_60 (List.mem_of_getElem? (i := 9) rfl) rfl
theorem wi_yX12_notes : Cond.instanceMethod yX12_notes ∈ WG := tch_60 (List.mem_of_getElem? (i := 11) rfl) rfl
theorem wm_yX12_notes : Cond.code yX12_notes cX12_notes 3 none ∈ WG := tch_60 (List.mem_of_getElem? (i := 12) rfl) rfl
theorem wl_X12_190 : Cond.methodLink RX12 190 yX12_factOf ∈ WG := tch_60 (List.mem_of_getElem? (i := 13) rfl) rfl
theorem wi_yX12_factOf : Cond.static yX12_factOf ∈ WG := tch_60 (List.mem_of_getElem? (i := 14) rfl) rfl
theorem wm_yX12_factOf : Cond.code yX12_factOf cX12_factOf 1 (some .int) ∈ WG := tch_60 (List.mem_of_getElem? (i := 15) rfl) rfl
theorem wl_X12_197 : Cond.methodLink RX12 197 yX12_sumSign ∈ WG := tch_60 (List.mem_of_getElem? (i := 16) rfl) rfl
theorem wi_yX12_sumSign : Cond.static yX12_sumSign ∈ WG := tch_60 (List.mem_of_getElem? (i := 17) rfl) rfl
theorem wm_yX12_sumSign : Cond.code yX12_sumSign cX12_sumSign 1 (some .int) ∈ WG := tch_60 (List.mem_of_getElem? (i := 18) rfl) rfl
theorem wl_X12_200 : Cond.methodLink RX12 200 yX12_closesSums ∈ WG := tch_60 (List.mem_of_getElem? (i := 19) rfl) rfl
theorem wi_yX12_closesSums : Cond.instanceMethod yX12_closesSums ∈ WG := tch_60 (List.mem_of_getElem? (i := 21) rfl) rfl
theorem wm_yX12_closesSums : Cond.code yX12_closesSums cX12_closesSums 2 none ∈ WG := tch_60 (List.mem_of_getElem? (i := 22) rfl) rfl
theorem wl_X12_177 : Cond.methodLink RX12 177 yX12_waitTop ∈ WG := tch_60 (List.mem_of_getElem? (i := 23) rfl) rfl
theorem wi_yX12_waitTop : Cond.instanceMethod yX12_waitTop ∈ WG := tch_61 (List.mem_of_getElem? (i := 1) rfl) rfl
theorem wm_yX12_waitTop : Cond.code yX12_waitTop cX12_waitTop 1 (some .int) ∈ WG := tch_61 (List.mem_of_getElem? (i := 2) rfl) rfl
theorem wl_X12_204 : Cond.methodLink RX12 204 yX12_hasOpenSum ∈ WG := tch_61 (List.mem_of_getElem? (i := 3) rfl) rfl
theorem wi_yX12_hasOpenSum : Cond.instanceMethod yX12_hasOpenSum ∈ WG := tch_61 (List.mem_of_getElem? (i := 5) rfl) rfl
theorem wm_yX12_hasOpenSum : Cond.code yX12_hasOpenSum cX12_hasOpenSum 3 (some .boolean) ∈ WG := tch_61 (List.mem_of_getElem? (i := 6) rfl) rfl
theorem wl_X12_228 : Cond.methodLink RX12 228 yX12_readsCondition ∈ WG := tch_61 (List.mem_of_getElem? (i := 7) rfl) rfl
theorem wi_yX12_readsCondition : Cond.instanceMethod yX12_readsCondition ∈ WG := tch_61 (List.mem_of_getElem? (i := 9) rfl) rfl
theorem wm_yX12_readsCondition : Cond.code yX12_readsCondition cX12_readsCondition 1 (some .boolean) ∈ WG := tch_61 (List.mem_of_getElem? (i := 10) rfl) rfl
theorem wl_X12_213 : Cond.methodLink RX12 213 yX12_readsCompared ∈ WG := tch_61 (List.mem_of_getElem? (i := 11) rfl) rfl
theorem wi_yX12_readsCompared : Cond.instanceMethod yX12_readsCompared ∈ WG := tch_61 (List.mem_of_getElem? (i := 13) rfl) rfl
theorem wm_yX12_readsCompared : Cond.code yX12_readsCompared cX12_readsCompared 2 (some .boolean) ∈ WG := tch_61 (List.mem_of_getElem? (i := 14) rfl) rfl
theorem wl_X12_210 : Cond.methodLink RX12 210 yX12_endsPiece ∈ WG := tch_61 (List.mem_of_getElem? (i := 15) rfl) rfl
theorem wi_yX12_endsPiece : Cond.instanceMethod yX12_endsPiece ∈ WG := tch_61 (List.mem_of_getElem? (i := 17) rfl) rfl
theorem wm_yX12_endsPiece : Cond.code yX12_endsPiece cX12_endsPiece 1 none ∈ WG := tch_61 (List.mem_of_getElem? (i := 18) rfl) rfl
theorem wl_X12_216 : Cond.methodLink RX12 216 yX12_lands ∈ WG := tch_61 (List.mem_of_getElem? (i := 19) rfl) rfl
theorem wi_yX12_lands : Cond.instanceMethod yX12_lands ∈ WG := tch_61 (List.mem_of_getElem? (i := 21) rfl) rfl
theorem wm_yX12_lands : Cond.code yX12_lands cX12_lands 3 none ∈ WG := tch_61 (List.mem_of_getElem? (i := 22) rfl) rfl
theorem wl_X12_219 : Cond.methodLink RX12 219 yX12_jumps ∈ WG := tch_61 (List.mem_of_getElem? (i := 23) rfl) rfl
theorem wi_yX12_jumps : Cond.instanceMethod yX12_jumps ∈ WG := tch_62 (List.mem_of_getElem? (i := 1) rfl) rfl
theorem wm_yX12_jumps : Cond.code yX12_jumps cX12_jumps 2 none ∈ WG := tch_62 (List.mem_of_getElem? (i := 2) rfl) rfl
theorem wl_X12_234 : Cond.methodLink RX12 234 yX12_takes ∈ WG := tch_62 (List.mem_of_getElem? (i := 3) rfl) rfl
theorem wi_yX12_takes : Cond.instanceMethod yX12_takes ∈ WG := tch_62 (List.mem_of_getElem? (i := 5) rfl) rfl
theorem wm_yX12_takes : Cond.code yX12_takes cX12_takes 2 (some .boolean) ∈ WG := tch_62 (List.mem_of_getElem? (i := 6) rfl) rfl
theorem wl_L_46 : Cond.methodLink RL 46 yX12_rule ∈ WG := tch_62 (List.mem_of_getElem? (i := 7) rfl) rfl
theorem wi_yX12_rule : Cond.instanceMethod yX12_rule ∈ WG := tch_62 (List.mem_of_getElem? (i := 8) rfl) rfl
theorem we_yX12_rule : Cond.selects RX12 yX12_rule yX12_rule ∈ WG := tch_62 (List.mem_of_getElem? (i := 9) rfl) rfl
theorem wm_yX12_rule : Cond.code yX12_rule cX12_rule 3 (some .int) ∈ WG := tch_62 (List.mem_of_getElem? (i := 10) rfl) rfl
theorem wl_L_62 : Cond.methodLink RL 62 yX12_gives ∈ WG := tch_62 (List.mem_of_getElem? (i := 11) rfl) rfl
theorem wi_yX12_gives : Cond.instanceMethod yX12_gives ∈ WG := tch_62 (List.mem_of_getElem? (i := 12) rfl) rfl
theorem we_yX12_gives : Cond.selects RX12 yX12_gives yX12_gives ∈ WG := tch_62 (List.mem_of_getElem? (i := 13) rfl) rfl
theorem wm_yX12_gives : Cond.code yX12_gives cX12_gives 3 (some .int) ∈ WG := tch_62 (List.mem_of_getElem? (i := 14) rfl) rfl
theorem wl_X12_259 : Cond.methodLink RX12 259 yX12_isPerson ∈ WG := tch_62 (List.mem_of_getElem? (i := 15) rfl) rfl
theorem wi_yX12_isPerson : Cond.instanceMethod yX12_isPerson ∈ WG := tch_62 (List.mem_of_getElem? (i := 17) rfl) rfl
theorem wm_yX12_isPerson : Cond.code yX12_isPerson cX12_isPerson 2 (some .boolean) ∈ WG := tch_62 (List.mem_of_getElem? (i := 18) rfl) rfl
theorem wl_X12_262 : Cond.methodLink RX12 262 yX12_cupsOf ∈ WG := tch_62 (List.mem_of_getElem? (i := 19) rfl) rfl
theorem wi_yX12_cupsOf : Cond.instanceMethod yX12_cupsOf ∈ WG := tch_62 (List.mem_of_getElem? (i := 21) rfl) rfl
theorem wm_yX12_cupsOf : Cond.code yX12_cupsOf cX12_cupsOf 3 (some .int) ∈ WG := tch_62 (List.mem_of_getElem? (i := 22) rfl) rfl
theorem wl_X12_253 : Cond.methodLink RX12 253 yX12_feelsPlant ∈ WG := tch_62 (List.mem_of_getElem? (i := 23) rfl) rfl
theorem wi_yX12_feelsPlant : Cond.instanceMethod yX12_feelsPlant ∈ WG := tch_63 (List.mem_of_getElem? (i := 1) rfl) rfl
theorem wm_yX12_feelsPlant : Cond.code yX12_feelsPlant cX12_feelsPlant 2 none ∈ WG := tch_63 (List.mem_of_getElem? (i := 2) rfl) rfl
theorem wl_X12_250 : Cond.methodLink RX12 250 yX12_feels ∈ WG := tch_63 (List.mem_of_getElem? (i := 3) rfl) rfl
theorem wi_yX12_feels : Cond.instanceMethod yX12_feels ∈ WG := tch_63 (List.mem_of_getElem? (i := 5) rfl) rfl
theorem wm_yX12_feels : Cond.code yX12_feels cX12_feels 2 none ∈ WG := tch_63 (List.mem_of_getElem? (i := 6) rfl) rfl
theorem wl_X12_247 : Cond.methodLink RX12 247 yX12_bits ∈ WG := tch_63 (List.mem_of_getElem? (i := 7) rfl) rfl
theorem wi_yX12_bits : Cond.static yX12_bits ∈ WG := tch_63 (List.mem_of_getElem? (i := 8) rfl) rfl
theorem wm_yX12_bits : Cond.code yX12_bits cX12_bits 3 (some .int) ∈ WG := tch_63 (List.mem_of_getElem? (i := 9) rfl) rfl
theorem wl_X12_256 : Cond.methodLink RX12 256 yX12_byText ∈ WG := tch_63 (List.mem_of_getElem? (i := 10) rfl) rfl
theorem wi_yX12_byText : Cond.instanceMethod yX12_byText ∈ WG := tch_63 (List.mem_of_getElem? (i := 12) rfl) rfl
theorem wm_yX12_byText : Cond.code yX12_byText cX12_byText 6 (some .int) ∈ WG := tch_63 (List.mem_of_getElem? (i := 13) rfl) rfl
theorem wl_X12_244 : Cond.methodLink RX12 244 yX12_comesTo ∈ WG := tch_63 (List.mem_of_getElem? (i := 14) rfl) rfl
theorem wi_yX12_comesTo : Cond.instanceMethod yX12_comesTo ∈ WG := tch_63 (List.mem_of_getElem? (i := 16) rfl) rfl
theorem wm_yX12_comesTo : Cond.code yX12_comesTo cX12_comesTo 8 (some .int) ∈ WG := tch_63 (List.mem_of_getElem? (i := 17) rfl) rfl
theorem wl_X12_240 : Cond.methodLink RX12 240 yX12_reckon ∈ WG := tch_63 (List.mem_of_getElem? (i := 18) rfl) rfl
theorem wi_yX12_reckon : Cond.static yX12_reckon ∈ WG := tch_63 (List.mem_of_getElem? (i := 19) rfl) rfl
theorem wm_yX12_reckon : Cond.code yX12_reckon cX12_reckon 3 (some .int) ∈ WG := tch_63 (List.mem_of_getElem? (i := 20) rfl) rfl
theorem wl_L_50 : Cond.methodLink RL 50 yX12_days ∈ WG := tch_63 (List.mem_of_getElem? (i := 21) rfl) rfl
theorem wi_yX12_days : Cond.instanceMethod yX12_days ∈ WG := tch_63 (List.mem_of_getElem? (i := 22) rfl) rfl
theorem we_yX12_days : Cond.selects RX12 yX12_days yX12_days ∈ WG := tch_63 (List.mem_of_getElem? (i := 23) rfl) rfl
theorem wm_yX12_days : Cond.code yX12_days cX12_days 2 (some .int) ∈ WG := tch_64 (List.mem_of_getElem? (i := 0) rfl) rfl
theorem wl_X12_291 : Cond.methodLink RX12 291 yX12_daysGo ∈ WG := tch_64 (List.mem_of_getElem? (i := 1) rfl) rfl
theorem wi_yX12_daysGo : Cond.instanceMethod yX12_daysGo ∈ WG := tch_64 (List.mem_of_getElem? (i := 3) rfl) rfl
theorem wm_yX12_daysGo : Cond.code yX12_daysGo cX12_daysGo 3 none ∈ WG := tch_64 (List.mem_of_getElem? (i := 4) rfl) rfl
theorem wl_X12_288 : Cond.methodLink RX12 288 yX12_dayGoes ∈ WG := tch_64 (List.mem_of_getElem? (i := 5) rfl) rfl
theorem wi_yX12_dayGoes : Cond.instanceMethod yX12_dayGoes ∈ WG := tch_64 (List.mem_of_getElem? (i := 7) rfl) rfl
theorem wm_yX12_dayGoes : Cond.code yX12_dayGoes cX12_dayGoes 3 none ∈ WG := tch_64 (List.mem_of_getElem? (i := 8) rfl) rfl
theorem wl_X12_275 : Cond.methodLink RX12 275 yX12_draws ∈ WG := tch_64 (List.mem_of_getElem? (i := 9) rfl) rfl
theorem wi_yX12_draws : Cond.instanceMethod yX12_draws ∈ WG := tch_64 (List.mem_of_getElem? (i := 11) rfl) rfl
theorem wm_yX12_draws : Cond.code yX12_draws cX12_draws 1 (some .int) ∈ WG := tch_64 (List.mem_of_getElem? (i := 12) rfl) rfl
theorem wq_X12_265 : Cond.constant RX12 265 (Int32.ofInt (65536)) ∈ WG := tch_64 (List.mem_of_getElem? (i := 13) rfl) rfl
theorem wl_X12_278 : Cond.methodLink RX12 278 yX12_waters ∈ WG := tch_64 (List.mem_of_getElem? (i := 14) rfl) rfl
theorem wi_yX12_waters : Cond.instanceMethod yX12_waters ∈ WG := tch_64 (List.mem_of_getElem? (i := 16) rfl) rfl
theorem wm_yX12_waters : Cond.code yX12_waters cX12_waters 5 none ∈ WG := tch_64 (List.mem_of_getElem? (i := 17) rfl) rfl
theorem wl_X12_284 : Cond.methodLink RX12 284 yX12_dries ∈ WG := tch_64 (List.mem_of_getElem? (i := 18) rfl) rfl
theorem wi_yX12_dries : Cond.instanceMethod yX12_dries ∈ WG := tch_64 (List.mem_of_getElem? (i := 20) rfl) rfl
theorem wm_yX12_dries : Cond.code yX12_dries cX12_dries 6 none ∈ WG := tch_64 (List.mem_of_getElem? (i := 21) rfl) rfl
theorem wl_X12_272 : Cond.methodLink RX12 272 yX12_max ∈ WG := tch_64 (List.mem_of_getElem? (i := 22) rfl) rfl
theorem wi_yX12_max : Cond.static yX12_max ∈ WG := tch_64 (List.mem_of_getElem? (i := 23) rfl) rfl
theorem wm_yX12_max : Cond.code yX12_max cX12_max 2 (some .int) ∈ WG := tch_65 (List.mem_of_getElem? (i := 0) rfl) rfl
theorem wl_L_54 : Cond.methodLink RL 54 yX12_tried ∈ WG := tch_65 (List.mem_of_getElem? (i := 1) rfl) rfl
theorem wi_yX12_tried : Cond.instanceMethod yX12_tried ∈ WG := tch_65 (List.mem_of_getElem? (i := 2) rfl) rfl
theorem we_yX12_tried : Cond.selects RX12 yX12_tried yX12_tried ∈ WG := tch_65 (List.mem_of_getElem? (i := 3) rfl) rfl
theorem wm_yX12_tried : Cond.code yX12_tried cX12_tried 5 (some .int) ∈ WG := tch_65 (List.mem_of_getElem? (i := 4) rfl) rfl
theorem wl_X12_294 : Cond.methodLink RX12 294 yX12_copies ∈ WG := tch_65 (List.mem_of_getElem? (i := 5) rfl) rfl
theorem wi_yX12_copies : Cond.static yX12_copies ∈ WG := tch_65 (List.mem_of_getElem? (i := 6) rfl) rfl
theorem wm_yX12_copies : Cond.code yX12_copies cX12_copies 3 none ∈ WG := tch_65 (List.mem_of_getElem? (i := 7) rfl) rfl
theorem wl_L_58 : Cond.methodLink RL 58 yX12_plantIs ∈ WG := tch_65 (List.mem_of_getElem? (i := 8) rfl) rfl
theorem wi_yX12_plantIs : Cond.instanceMethod yX12_plantIs ∈ WG := tch_65 (List.mem_of_getElem? (i := 9) rfl) rfl
theorem we_yX12_plantIs : Cond.selects RX12 yX12_plantIs yX12_plantIs ∈ WG := tch_65 (List.mem_of_getElem? (i := 10) rfl) rfl
theorem wm_yX12_plantIs : Cond.code yX12_plantIs cX12_plantIs 3 (some .int) ∈ WG := tch_65 (List.mem_of_getElem? (i := 11) rfl) rfl
theorem wl_L_67 : Cond.methodLink RL 67 yX12_exactly ∈ WG := tch_65 (List.mem_of_getElem? (i := 12) rfl) rfl
theorem wi_yX12_exactly : Cond.instanceMethod yX12_exactly ∈ WG := tch_65 (List.mem_of_getElem? (i := 13) rfl) rfl
theorem we_yX12_exactly : Cond.selects RX12 yX12_exactly yX12_exactly ∈ WG := tch_65 (List.mem_of_getElem? (i := 14) rfl) rfl
theorem wm_yX12_exactly : Cond.code yX12_exactly cX12_exactly 8 (some .long) ∈ WG := tch_65 (List.mem_of_getElem? (i := 15) rfl) rfl
theorem wl_X12_342 : Cond.methodLink RX12 342 yX12_canGo ∈ WG := tch_65 (List.mem_of_getElem? (i := 16) rfl) rfl
theorem wi_yX12_canGo : Cond.instanceMethod yX12_canGo ∈ WG := tch_65 (List.mem_of_getElem? (i := 18) rfl) rfl
theorem wm_yX12_canGo : Cond.code yX12_canGo cX12_canGo 4 (some .boolean) ∈ WG := tch_65 (List.mem_of_getElem? (i := 19) rfl) rfl
theorem wl_X12_339 : Cond.methodLink RX12 339 yX12_laysSome ∈ WG := tch_65 (List.mem_of_getElem? (i := 20) rfl) rfl
theorem wi_yX12_laysSome : Cond.instanceMethod yX12_laysSome ∈ WG := tch_65 (List.mem_of_getElem? (i := 22) rfl) rfl
theorem wm_yX12_laysSome : Cond.code yX12_laysSome cX12_laysSome 4 (some .boolean) ∈ WG := tch_65 (List.mem_of_getElem? (i := 23) rfl) rfl
theorem wq_X12_345 : Cond.constantLong RX12 345 (Int64.ofInt (-1)) ∈ WG := tch_66 (List.mem_of_getElem? (i := 0) rfl) rfl
theorem wl_X12_347 : Cond.methodLink RX12 347 yX12_goesThrough ∈ WG := tch_66 (List.mem_of_getElem? (i := 1) rfl) rfl
theorem wi_yX12_goesThrough : Cond.instanceMethod yX12_goesThrough ∈ WG := tch_66 (List.mem_of_getElem? (i := 3) rfl) rfl
theorem wm_yX12_goesThrough : Cond.code yX12_goesThrough cX12_goesThrough 7 (some .long) ∈ WG := tch_66 (List.mem_of_getElem? (i := 4) rfl) rfl
theorem wl_X12_325 : Cond.methodLink RX12 325 yX12_stateOf ∈ WG := tch_66 (List.mem_of_getElem? (i := 5) rfl) rfl
theorem wi_yX12_stateOf : Cond.static yX12_stateOf ∈ WG := tch_66 (List.mem_of_getElem? (i := 6) rfl) rfl
theorem wm_yX12_stateOf : Cond.code yX12_stateOf cX12_stateOf 3 (some .int) ∈ WG := tch_66 (List.mem_of_getElem? (i := 7) rfl) rfl
theorem wl_X12_328 : Cond.methodLink RX12 328 yX12_tens ∈ WG := tch_66 (List.mem_of_getElem? (i := 8) rfl) rfl
theorem wi_yX12_tens : Cond.static yX12_tens ∈ WG := tch_66 (List.mem_of_getElem? (i := 9) rfl) rfl
theorem wm_yX12_tens : Cond.code yX12_tens cX12_tens 4 (some .long) ∈ WG := tch_66 (List.mem_of_getElem? (i := 10) rfl) rfl
theorem wq_X12_112 : Cond.constantLong RX12 112 (Int64.ofInt (10)) ∈ WG := tch_66 (List.mem_of_getElem? (i := 11) rfl) rfl
theorem wl_X12_332 : Cond.methodLink RX12 332 yX12_comesBy ∈ WG := tch_66 (List.mem_of_getElem? (i := 12) rfl) rfl
theorem wi_yX12_comesBy : Cond.instanceMethod yX12_comesBy ∈ WG := tch_66 (List.mem_of_getElem? (i := 14) rfl) rfl
theorem wm_yX12_comesBy : Cond.code yX12_comesBy cX12_comesBy 6 none ∈ WG := tch_66 (List.mem_of_getElem? (i := 15) rfl) rfl
theorem wl_X12_316 : Cond.methodLink RX12 316 yX12_cupsIn ∈ WG := tch_66 (List.mem_of_getElem? (i := 16) rfl) rfl
theorem wi_yX12_cupsIn : Cond.instanceMethod yX12_cupsIn ∈ WG := tch_66 (List.mem_of_getElem? (i := 18) rfl) rfl
theorem wm_yX12_cupsIn : Cond.code yX12_cupsIn cX12_cupsIn 4 (some .int) ∈ WG := tch_66 (List.mem_of_getElem? (i := 19) rfl) rfl
theorem wl_X12_313 : Cond.methodLink RX12 313 yX12_feelsState ∈ WG := tch_66 (List.mem_of_getElem? (i := 20) rfl) rfl
theorem wi_yX12_feelsState : Cond.instanceMethod yX12_feelsState ∈ WG := tch_66 (List.mem_of_getElem? (i := 22) rfl) rfl
theorem wm_yX12_feelsState : Cond.code yX12_feelsState cX12_feelsState 3 none ∈ WG := tch_66 (List.mem_of_getElem? (i := 23) rfl) rfl
theorem wl_X12_304 : Cond.methodLink RX12 304 yX12_dryIn ∈ WG := tch_67 (List.mem_of_getElem? (i := 0) rfl) rfl
theorem wi_yX12_dryIn : Cond.static yX12_dryIn ∈ WG := tch_67 (List.mem_of_getElem? (i := 1) rfl) rfl
theorem wm_yX12_dryIn : Cond.code yX12_dryIn cX12_dryIn 1 (some .int) ∈ WG := tch_67 (List.mem_of_getElem? (i := 2) rfl) rfl
theorem wl_X12_307 : Cond.methodLink RX12 307 yX12_drownedIn ∈ WG := tch_67 (List.mem_of_getElem? (i := 3) rfl) rfl
theorem wi_yX12_drownedIn : Cond.static yX12_drownedIn ∈ WG := tch_67 (List.mem_of_getElem? (i := 4) rfl) rfl
theorem wm_yX12_drownedIn : Cond.code yX12_drownedIn cX12_drownedIn 1 (some .int) ∈ WG := tch_67 (List.mem_of_getElem? (i := 5) rfl) rfl
theorem wl_X12_335 : Cond.methodLink RX12 335 yX12_sunBy ∈ WG := tch_67 (List.mem_of_getElem? (i := 6) rfl) rfl
theorem wi_yX12_sunBy : Cond.instanceMethod yX12_sunBy ∈ WG := tch_67 (List.mem_of_getElem? (i := 8) rfl) rfl
theorem wm_yX12_sunBy : Cond.code yX12_sunBy cX12_sunBy 10 none ∈ WG := tch_67 (List.mem_of_getElem? (i := 9) rfl) rfl
theorem wq_X12_319 : Cond.constantLong RX12 319 (Int64.ofInt (5)) ∈ WG := tch_67 (List.mem_of_getElem? (i := 10) rfl) rfl
theorem wl_L_71 : Cond.methodLink RL 71 yX12_chance ∈ WG := tch_67 (List.mem_of_getElem? (i := 11) rfl) rfl
theorem wi_yX12_chance : Cond.instanceMethod yX12_chance ∈ WG := tch_67 (List.mem_of_getElem? (i := 12) rfl) rfl
theorem we_yX12_chance : Cond.selects RX12 yX12_chance yX12_chance ∈ WG := tch_67 (List.mem_of_getElem? (i := 13) rfl) rfl
theorem wm_yX12_chance : Cond.code yX12_chance cX12_chance 11 (some .long) ∈ WG := tch_67 (List.mem_of_getElem? (i := 14) rfl) rfl
theorem wl_L_75 : Cond.methodLink RL 75 yX12_toAsk ∈ WG := tch_67 (List.mem_of_getElem? (i := 15) rfl) rfl
theorem wi_yX12_toAsk : Cond.instanceMethod yX12_toAsk ∈ WG := tch_67 (List.mem_of_getElem? (i := 16) rfl) rfl
theorem we_yX12_toAsk : Cond.selects RX12 yX12_toAsk yX12_toAsk ∈ WG := tch_67 (List.mem_of_getElem? (i := 17) rfl) rfl
theorem wm_yX12_toAsk : Cond.code yX12_toAsk cX12_toAsk 11 (some .long) ∈ WG := tch_67 (List.mem_of_getElem? (i := 18) rfl) rfl
theorem wl_L_80 : Cond.methodLink RL 80 yX12_few ∈ WG := tch_67 (List.mem_of_getElem? (i := 19) rfl) rfl
theorem wi_yX12_few : Cond.instanceMethod yX12_few ∈ WG := tch_67 (List.mem_of_getElem? (i := 20) rfl) rfl
theorem we_yX12_few : Cond.selects RX12 yX12_few yX12_few ∈ WG := tch_67 (List.mem_of_getElem? (i := 21) rfl) rfl
theorem wm_yX12_few : Cond.code yX12_few cX12_few 8 (some .int) ∈ WG := tch_67 (List.mem_of_getElem? (i := 22) rfl) rfl
theorem wl_L_84 : Cond.methodLink RL 84 yX12_pot ∈ WG := tch_67 (List.mem_of_getElem? (i := 23) rfl) rfl
theorem wi_yX12_pot : Cond.instanceMethod yX12_pot ∈ WG := tch_68 (List.mem_of_getElem? (i := 0) rfl) rfl
theorem we_yX12_pot : Cond.selects RX12 yX12_pot yX12_pot ∈ WG := tch_68 (List.mem_of_getElem? (i := 1) rfl) rfl
theorem wm_yX12_pot : Cond.code yX12_pot cX12_pot 11 (some .long) ∈ WG := tch_68 (List.mem_of_getElem? (i := 2) rfl) rfl
theorem wq_X12_351 : Cond.constantLong RX12 351 (Int64.ofInt (-1000000000000)) ∈ WG := tch_68 (List.mem_of_getElem? (i := 3) rfl) rfl
theorem wl_L_89 : Cond.methodLink RL 89 yX12_ruleFor ∈ WG := tch_68 (List.mem_of_getElem? (i := 4) rfl) rfl
theorem wi_yX12_ruleFor : Cond.instanceMethod yX12_ruleFor ∈ WG := tch_68 (List.mem_of_getElem? (i := 5) rfl) rfl
theorem we_yX12_ruleFor : Cond.selects RX12 yX12_ruleFor yX12_ruleFor ∈ WG := tch_68 (List.mem_of_getElem? (i := 6) rfl) rfl
theorem wm_yX12_ruleFor : Cond.code yX12_ruleFor cX12_ruleFor 12 (some .long) ∈ WG := tch_68 (List.mem_of_getElem? (i := 7) rfl) rfl
theorem wl_L_93 : Cond.methodLink RL 93 yX12_lasts ∈ WG := tch_68 (List.mem_of_getElem? (i := 8) rfl) rfl
theorem wi_yX12_lasts : Cond.instanceMethod yX12_lasts ∈ WG := tch_68 (List.mem_of_getElem? (i := 9) rfl) rfl
theorem we_yX12_lasts : Cond.selects RX12 yX12_lasts yX12_lasts ∈ WG := tch_68 (List.mem_of_getElem? (i := 10) rfl) rfl
theorem wm_yX12_lasts : Cond.code yX12_lasts cX12_lasts 3 (some .int) ∈ WG := tch_68 (List.mem_of_getElem? (i := 11) rfl) rfl
theorem wl_X12_353 : Cond.methodLink RX12 353 yX12_lastsWith ∈ WG := tch_68 (List.mem_of_getElem? (i := 12) rfl) rfl
theorem wi_yX12_lastsWith : Cond.instanceMethod yX12_lastsWith ∈ WG := tch_68 (List.mem_of_getElem? (i := 14) rfl) rfl
theorem wm_yX12_lastsWith : Cond.code yX12_lastsWith cX12_lastsWith 4 (some .int) ∈ WG := tch_68 (List.mem_of_getElem? (i := 15) rfl) rfl
theorem wl_L_110 : Cond.methodLink RL 110 yX12_spread ∈ WG := tch_68 (List.mem_of_getElem? (i := 16) rfl) rfl
theorem wi_yX12_spread : Cond.instanceMethod yX12_spread ∈ WG := tch_68 (List.mem_of_getElem? (i := 17) rfl) rfl
theorem we_yX12_spread : Cond.selects RX12 yX12_spread yX12_spread ∈ WG := tch_68 (List.mem_of_getElem? (i := 18) rfl) rfl
theorem wm_yX12_spread : Cond.code yX12_spread cX12_spread 4 (some .int) ∈ WG := tch_68 (List.mem_of_getElem? (i := 19) rfl) rfl
theorem wl_X12_362 : Cond.methodLink RX12 362 yX12_laysSpread ∈ WG := tch_68 (List.mem_of_getElem? (i := 20) rfl) rfl
theorem wi_yX12_laysSpread : Cond.instanceMethod yX12_laysSpread ∈ WG := tch_68 (List.mem_of_getElem? (i := 22) rfl) rfl
theorem wm_yX12_laysSpread : Cond.code yX12_laysSpread cX12_laysSpread 7 (some .int) ∈ WG := tch_68 (List.mem_of_getElem? (i := 23) rfl) rfl
theorem wl_X12_356 : Cond.methodLink RX12 356 yX12_mayBe ∈ WG := tch_69 (List.mem_of_getElem? (i := 0) rfl) rfl
theorem wi_yX12_mayBe : Cond.instanceMethod yX12_mayBe ∈ WG := tch_69 (List.mem_of_getElem? (i := 2) rfl) rfl
theorem wm_yX12_mayBe : Cond.code yX12_mayBe cX12_mayBe 4 (some .boolean) ∈ WG := tch_69 (List.mem_of_getElem? (i := 3) rfl) rfl
theorem wl_X12_359 : Cond.methodLink RX12 359 yX12_leastBy ∈ WG := tch_69 (List.mem_of_getElem? (i := 4) rfl) rfl
theorem wi_yX12_leastBy : Cond.instanceMethod yX12_leastBy ∈ WG := tch_69 (List.mem_of_getElem? (i := 6) rfl) rfl
theorem wm_yX12_leastBy : Cond.code yX12_leastBy cX12_leastBy 3 (some .int) ∈ WG := tch_69 (List.mem_of_getElem? (i := 7) rfl) rfl
theorem wl_L_97 : Cond.methodLink RL 97 yX12_needs ∈ WG := tch_69 (List.mem_of_getElem? (i := 8) rfl) rfl
theorem wi_yX12_needs : Cond.instanceMethod yX12_needs ∈ WG := tch_69 (List.mem_of_getElem? (i := 9) rfl) rfl
theorem we_yX12_needs : Cond.selects RX12 yX12_needs yX12_needs ∈ WG := tch_69 (List.mem_of_getElem? (i := 10) rfl) rfl
theorem wm_yX12_needs : Cond.code yX12_needs cX12_needs 4 (some .int) ∈ WG := tch_69 (List.mem_of_getElem? (i := 11) rfl) rfl
theorem wl_L_106 : Cond.methodLink RL 106 yX12_movesOut ∈ WG := tch_69 (List.mem_of_getElem? (i := 12) rfl) rfl
theorem wi_yX12_movesOut : Cond.instanceMethod yX12_movesOut ∈ WG := tch_69 (List.mem_of_getElem? (i := 13) rfl) rfl
theorem we_yX12_movesOut : Cond.selects RX12 yX12_movesOut yX12_movesOut ∈ WG := tch_69 (List.mem_of_getElem? (i := 14) rfl) rfl
theorem wm_yX12_movesOut : Cond.code yX12_movesOut cX12_movesOut 11 (some .long) ∈ WG := tch_69 (List.mem_of_getElem? (i := 15) rfl) rfl
theorem wl_L_102 : Cond.methodLink RL 102 yX12_week ∈ WG := tch_69 (List.mem_of_getElem? (i := 16) rfl) rfl
theorem wi_yX12_week : Cond.instanceMethod yX12_week ∈ WG := tch_69 (List.mem_of_getElem? (i := 17) rfl) rfl
theorem we_yX12_week : Cond.selects RX12 yX12_week yX12_week ∈ WG := tch_69 (List.mem_of_getElem? (i := 18) rfl) rfl
theorem wm_yX12_week : Cond.code yX12_week cX12_week 7 (some .int) ∈ WG := tch_69 (List.mem_of_getElem? (i := 19) rfl) rfl
theorem wl_X12_368 : Cond.methodLink RX12 368 yX12_comings ∈ WG := tch_69 (List.mem_of_getElem? (i := 20) rfl) rfl
theorem wi_yX12_comings : Cond.static yX12_comings ∈ WG := tch_69 (List.mem_of_getElem? (i := 21) rfl) rfl
theorem wm_yX12_comings : Cond.code yX12_comings cX12_comings 4 (some .int) ∈ WG := tch_69 (List.mem_of_getElem? (i := 22) rfl) rfl
theorem wl_X12_365 : Cond.methodLink RX12 365 yX12_comingIn ∈ WG := tch_69 (List.mem_of_getElem? (i := 23) rfl) rfl
theorem wi_yX12_comingIn : Cond.static yX12_comingIn ∈ WG := tch_70 (List.mem_of_getElem? (i := 0) rfl) rfl
theorem wm_yX12_comingIn : Cond.code yX12_comingIn cX12_comingIn 5 (some .int) ∈ WG := tch_70 (List.mem_of_getElem? (i := 1) rfl) rfl
theorem wl_X12_371 : Cond.methodLink RX12 371 yX12_wetBehind ∈ WG := tch_70 (List.mem_of_getElem? (i := 2) rfl) rfl
theorem wi_yX12_wetBehind : Cond.instanceMethod yX12_wetBehind ∈ WG := tch_70 (List.mem_of_getElem? (i := 4) rfl) rfl
theorem wm_yX12_wetBehind : Cond.code yX12_wetBehind cX12_wetBehind 6 (some .int) ∈ WG := tch_70 (List.mem_of_getElem? (i := 5) rfl) rfl
theorem wl_L_115 : Cond.methodLink RL 115 yX12_comes ∈ WG := tch_70 (List.mem_of_getElem? (i := 6) rfl) rfl
theorem wi_yX12_comes : Cond.instanceMethod yX12_comes ∈ WG := tch_70 (List.mem_of_getElem? (i := 7) rfl) rfl
theorem we_yX12_comes : Cond.selects RX12 yX12_comes yX12_comes ∈ WG := tch_70 (List.mem_of_getElem? (i := 8) rfl) rfl
theorem wm_yX12_comes : Cond.code yX12_comes cX12_comes 4 (some .long) ∈ WG := tch_70 (List.mem_of_getElem? (i := 9) rfl) rfl
theorem wl_X12_374 : Cond.methodLink RX12 374 yX12_areTenths ∈ WG := tch_70 (List.mem_of_getElem? (i := 10) rfl) rfl
theorem wi_yX12_areTenths : Cond.instanceMethod yX12_areTenths ∈ WG := tch_70 (List.mem_of_getElem? (i := 12) rfl) rfl
theorem wm_yX12_areTenths : Cond.code yX12_areTenths cX12_areTenths 3 (some .boolean) ∈ WG := tch_70 (List.mem_of_getElem? (i := 13) rfl) rfl
theorem wq_X12_377 : Cond.constantLong RX12 377 (Int64.ofInt (-2)) ∈ WG := tch_70 (List.mem_of_getElem? (i := 14) rfl) rfl
theorem wl_X12_379 : Cond.methodLink RX12 379 yX12_laysComes ∈ WG := tch_70 (List.mem_of_getElem? (i := 15) rfl) rfl
theorem wi_yX12_laysComes : Cond.instanceMethod yX12_laysComes ∈ WG := tch_70 (List.mem_of_getElem? (i := 17) rfl) rfl
theorem wm_yX12_laysComes : Cond.code yX12_laysComes cX12_laysComes 4 none ∈ WG := tch_70 (List.mem_of_getElem? (i := 18) rfl) rfl
theorem wl_X12_382 : Cond.methodLink RX12 382 yX12_through ∈ WG := tch_70 (List.mem_of_getElem? (i := 19) rfl) rfl
theorem wi_yX12_through : Cond.static yX12_through ∈ WG := tch_70 (List.mem_of_getElem? (i := 20) rfl) rfl
theorem wm_yX12_through : Cond.code yX12_through cX12_through 7 (some .long) ∈ WG := tch_70 (List.mem_of_getElem? (i := 21) rfl) rfl
theorem wl_X12_114 : Cond.methodLink RX12 114 yX12_gcd ∈ WG := tch_70 (List.mem_of_getElem? (i := 22) rfl) rfl
theorem wi_yX12_gcd : Cond.static yX12_gcd ∈ WG := tch_70 (List.mem_of_getElem? (i := 23) rfl) rfl
theorem wm_yX12_gcd : Cond.code yX12_gcd cX12_gcd 10 (some .long) ∈ WG := tch_71 (List.mem_of_getElem? (i := 0) rfl) rfl
theorem wl_L_119 : Cond.methodLink RL 119 yX12_share ∈ WG := tch_71 (List.mem_of_getElem? (i := 1) rfl) rfl
theorem wi_yX12_share : Cond.instanceMethod yX12_share ∈ WG := tch_71 (List.mem_of_getElem? (i := 2) rfl) rfl
theorem we_yX12_share : Cond.selects RX12 yX12_share yX12_share ∈ WG := tch_71 (List.mem_of_getElem? (i := 3) rfl) rfl
theorem wm_yX12_share : Cond.code yX12_share cX12_share 6 (some .int) ∈ WG := tch_71 (List.mem_of_getElem? (i := 4) rfl) rfl
theorem wl_L_123 : Cond.methodLink RL 123 yX12_rota ∈ WG := tch_71 (List.mem_of_getElem? (i := 5) rfl) rfl
theorem wi_yX12_rota : Cond.instanceMethod yX12_rota ∈ WG := tch_71 (List.mem_of_getElem? (i := 6) rfl) rfl
theorem we_yX12_rota : Cond.selects RX12 yX12_rota yX12_rota ∈ WG := tch_71 (List.mem_of_getElem? (i := 7) rfl) rfl
theorem wm_yX12_rota : Cond.code yX12_rota cX12_rota 7 (some .int) ∈ WG := tch_71 (List.mem_of_getElem? (i := 8) rfl) rfl
theorem wl_X12_401 : Cond.methodLink RX12 401 yX12_readsWeek ∈ WG := tch_71 (List.mem_of_getElem? (i := 9) rfl) rfl
theorem wi_yX12_readsWeek : Cond.instanceMethod yX12_readsWeek ∈ WG := tch_71 (List.mem_of_getElem? (i := 11) rfl) rfl
theorem wm_yX12_readsWeek : Cond.code yX12_readsWeek cX12_readsWeek 5 (some .boolean) ∈ WG := tch_71 (List.mem_of_getElem? (i := 12) rfl) rfl
theorem wl_X12_386 : Cond.methodLink RX12 386 yX12_isDayAt ∈ WG := tch_71 (List.mem_of_getElem? (i := 13) rfl) rfl
theorem wi_yX12_isDayAt : Cond.static yX12_isDayAt ∈ WG := tch_71 (List.mem_of_getElem? (i := 14) rfl) rfl
theorem wm_yX12_isDayAt : Cond.code yX12_isDayAt cX12_isDayAt 1 (some .boolean) ∈ WG := tch_71 (List.mem_of_getElem? (i := 15) rfl) rfl
theorem wl_X12_404 : Cond.methodLink RX12 404 yX12_goesByRota ∈ WG := tch_71 (List.mem_of_getElem? (i := 16) rfl) rfl
theorem wi_yX12_goesByRota : Cond.instanceMethod yX12_goesByRota ∈ WG := tch_71 (List.mem_of_getElem? (i := 18) rfl) rfl
theorem wm_yX12_goesByRota : Cond.code yX12_goesByRota cX12_goesByRota 3 none ∈ WG := tch_71 (List.mem_of_getElem? (i := 19) rfl) rfl
theorem wl_L_127 : Cond.methodLink RL 127 yX12_alone ∈ WG := tch_71 (List.mem_of_getElem? (i := 20) rfl) rfl
theorem wi_yX12_alone : Cond.instanceMethod yX12_alone ∈ WG := tch_71 (List.mem_of_getElem? (i := 21) rfl) rfl
theorem we_yX12_alone : Cond.selects RX12 yX12_alone yX12_alone ∈ WG := tch_71 (List.mem_of_getElem? (i := 22) rfl) rfl
theorem wm_yX12_alone : Cond.code yX12_alone cX12_alone 8 (some .int) ∈ WG := tch_71 (List.mem_of_getElem? (i := 23) rfl) rfl
theorem wl_X12_407 : Cond.methodLink RX12 407 yX12_laysAlone ∈ WG := tch_72 (List.mem_of_getElem? (i := 0) rfl) rfl
theorem wi_yX12_laysAlone : Cond.instanceMethod yX12_laysAlone ∈ WG := tch_72 (List.mem_of_getElem? (i := 2) rfl) rfl
theorem wm_yX12_laysAlone : Cond.code yX12_laysAlone cX12_laysAlone 3 none ∈ WG := tch_72 (List.mem_of_getElem? (i := 3) rfl) rfl
theorem wl_X12_410 : Cond.methodLink RX12 410 yX12_waterBy ∈ WG := tch_72 (List.mem_of_getElem? (i := 4) rfl) rfl
theorem wi_yX12_waterBy : Cond.instanceMethod yX12_waterBy ∈ WG := tch_72 (List.mem_of_getElem? (i := 6) rfl) rfl
theorem wm_yX12_waterBy : Cond.code yX12_waterBy cX12_waterBy 6 (some .boolean) ∈ WG := tch_72 (List.mem_of_getElem? (i := 7) rfl) rfl
theorem wl_X12_413 : Cond.methodLink RX12 413 yX12_gainOf ∈ WG := tch_72 (List.mem_of_getElem? (i := 8) rfl) rfl
theorem wi_yX12_gainOf : Cond.instanceMethod yX12_gainOf ∈ WG := tch_72 (List.mem_of_getElem? (i := 10) rfl) rfl
theorem wm_yX12_gainOf : Cond.code yX12_gainOf cX12_gainOf 3 (some .int) ∈ WG := tch_72 (List.mem_of_getElem? (i := 11) rfl) rfl
theorem wl_L_131 : Cond.methodLink RL 131 yX12_whoDid ∈ WG := tch_72 (List.mem_of_getElem? (i := 12) rfl) rfl
theorem wi_yX12_whoDid : Cond.instanceMethod yX12_whoDid ∈ WG := tch_72 (List.mem_of_getElem? (i := 13) rfl) rfl
theorem we_yX12_whoDid : Cond.selects RX12 yX12_whoDid yX12_whoDid ∈ WG := tch_72 (List.mem_of_getElem? (i := 14) rfl) rfl
theorem wm_yX12_whoDid : Cond.code yX12_whoDid cX12_whoDid 14 (some .long) ∈ WG := tch_72 (List.mem_of_getElem? (i := 15) rfl) rfl
theorem wl_L_135 : Cond.methodLink RL 135 yX12_can ∈ WG := tch_72 (List.mem_of_getElem? (i := 16) rfl) rfl
theorem wi_yX12_can : Cond.instanceMethod yX12_can ∈ WG := tch_72 (List.mem_of_getElem? (i := 17) rfl) rfl
theorem we_yX12_can : Cond.selects RX12 yX12_can yX12_can ∈ WG := tch_72 (List.mem_of_getElem? (i := 18) rfl) rfl
theorem wm_yX12_can : Cond.code yX12_can cX12_can 8 (some .long) ∈ WG := tch_72 (List.mem_of_getElem? (i := 19) rfl) rfl
theorem wl_L_140 : Cond.methodLink RL 140 yX12_seed ∈ WG := tch_72 (List.mem_of_getElem? (i := 20) rfl) rfl
theorem wi_yX12_seed : Cond.instanceMethod yX12_seed ∈ WG := tch_72 (List.mem_of_getElem? (i := 21) rfl) rfl
theorem we_yX12_seed : Cond.selects RX12 yX12_seed yX12_seed ∈ WG := tch_72 (List.mem_of_getElem? (i := 22) rfl) rfl
theorem wm_yX12_seed : Cond.code yX12_seed cX12_seed 2 (some .boolean) ∈ WG := tch_72 (List.mem_of_getElem? (i := 23) rfl) rfl
theorem wq_X12_416 : Cond.constant RX12 416 (Int32.ofInt (65535)) ∈ WG := tch_73 (List.mem_of_getElem? (i := 0) rfl) rfl
theorem wl_L_145 : Cond.methodLink RL 145 yX12_keep ∈ WG := tch_73 (List.mem_of_getElem? (i := 1) rfl) rfl
theorem wi_yX12_keep : Cond.instanceMethod yX12_keep ∈ WG := tch_73 (List.mem_of_getElem? (i := 2) rfl) rfl
theorem we_yX12_keep : Cond.selects RX12 yX12_keep yX12_keep ∈ WG := tch_73 (List.mem_of_getElem? (i := 3) rfl) rfl
theorem wm_yX12_keep : Cond.code yX12_keep cX12_keep 3 (some .int) ∈ WG := tch_73 (List.mem_of_getElem? (i := 4) rfl) rfl
theorem wl_L_150 : Cond.methodLink RL 150 yX12_undo ∈ WG := tch_73 (List.mem_of_getElem? (i := 5) rfl) rfl
theorem wi_yX12_undo : Cond.instanceMethod yX12_undo ∈ WG := tch_73 (List.mem_of_getElem? (i := 6) rfl) rfl
theorem we_yX12_undo : Cond.selects RX12 yX12_undo yX12_undo ∈ WG := tch_73 (List.mem_of_getElem? (i := 7) rfl) rfl
theorem wm_yX12_undo : Cond.code yX12_undo cX12_undo 1 (some .boolean) ∈ WG := tch_73 (List.mem_of_getElem? (i := 8) rfl) rfl
theorem wl_L_154 : Cond.methodLink RL 154 yX12_check ∈ WG := tch_73 (List.mem_of_getElem? (i := 9) rfl) rfl
theorem wi_yX12_check : Cond.instanceMethod yX12_check ∈ WG := tch_73 (List.mem_of_getElem? (i := 10) rfl) rfl
theorem we_yX12_check : Cond.selects RX12 yX12_check yX12_check ∈ WG := tch_73 (List.mem_of_getElem? (i := 11) rfl) rfl
theorem wm_yX12_check : Cond.code yX12_check cX12_check 4 (some .int) ∈ WG := tch_73 (List.mem_of_getElem? (i := 12) rfl) rfl
theorem wl_X12_421 : Cond.methodLink RX12 421 yX12_tapeNumber ∈ WG := tch_73 (List.mem_of_getElem? (i := 13) rfl) rfl
theorem wi_yX12_tapeNumber : Cond.instanceMethod yX12_tapeNumber ∈ WG := tch_73 (List.mem_of_getElem? (i := 15) rfl) rfl
theorem wm_yX12_tapeNumber : Cond.code yX12_tapeNumber cX12_tapeNumber 4 (some .int) ∈ WG := tch_73 (List.mem_of_getElem? (i := 16) rfl) rfl
theorem wl_L_158 : Cond.methodLink RL 158 yX12_count ∈ WG := tch_73 (List.mem_of_getElem? (i := 17) rfl) rfl
theorem wi_yX12_count : Cond.instanceMethod yX12_count ∈ WG := tch_73 (List.mem_of_getElem? (i := 18) rfl) rfl
theorem we_yX12_count : Cond.selects RX12 yX12_count yX12_count ∈ WG := tch_73 (List.mem_of_getElem? (i := 19) rfl) rfl
theorem wm_yX12_count : Cond.code yX12_count cX12_count 2 (some .int) ∈ WG := tch_73 (List.mem_of_getElem? (i := 20) rfl) rfl
theorem we_yX6_clause : Cond.selects RX6 yX6_clause yX6_clause ∈ WG := WG_mem 0 rfl rfl
theorem we_yX6_peek : Cond.selects RX6 yX6_peek yX6_peek ∈ WG := WG_mem 1 rfl rfl
theorem we_yX6_fail : Cond.selects RX6 yX6_fail yX6_fail ∈ WG := WG_mem 2 rfl rfl
theorem we_yX6_sum : Cond.selects RX6 yX6_sum yX6_sum ∈ WG := WG_mem 3 rfl rfl
theorem we_yX6_term : Cond.selects RX6 yX6_term yX6_term ∈ WG := WG_mem 4 rfl rfl
theorem we_yX6_factor : Cond.selects RX6 yX6_factor yX6_factor ∈ WG := WG_mem 5 rfl rfl
theorem we_yX6_bracket : Cond.selects RX6 yX6_bracket yX6_bracket ∈ WG := WG_mem 6 rfl rfl
theorem we_yX6_enter : Cond.selects RX6 yX6_enter yX6_enter ∈ WG := WG_mem 7 rfl rfl
theorem we_yX6_condition : Cond.selects RX6 yX6_condition yX6_condition ∈ WG := WG_mem 8 rfl rfl
theorem we_yX6_conditionPart : Cond.selects RX6 yX6_conditionPart yX6_conditionPart ∈ WG := WG_mem 9 rfl rfl
theorem we_yX6_piece : Cond.selects RX6 yX6_piece yX6_piece ∈ WG := WG_mem 10 rfl rfl
theorem we_yX6_comparison : Cond.selects RX6 yX6_comparison yX6_comparison ∈ WG := WG_mem 11 rfl rfl
theorem we_yX6_sign : Cond.selects RX6 yX6_sign yX6_sign ∈ WG := WG_mem 12 rfl rfl
theorem we_yX6_number : Cond.selects RX6 yX6_number yX6_number ∈ WG := WG_mem 13 rfl rfl
theorem we_yX3_oneDay : Cond.selects RX3 yX3_oneDay yX3_oneDay ∈ WG := WG_mem 14 rfl rfl
theorem we_yX0_run : Cond.selects RX0 yX0_run yX0_run ∈ WG := WG_mem 15 rfl rfl
theorem we_yX0_push : Cond.selects RX0 yX0_push yX0_push ∈ WG := WG_mem 16 rfl rfl
theorem we_yX0_pop : Cond.selects RX0 yX0_pop yX0_pop ∈ WG := WG_mem 17 rfl rfl
theorem we_yX0_reckon : Cond.selects RX0 yX0_reckon yX0_reckon ∈ WG := WG_mem 18 rfl rfl
theorem we_yX11_canTry : Cond.selects RX11 yX11_canTry yX11_canTry ∈ WG := WG_mem 19 rfl rfl
theorem we_yX11_canReckon : Cond.selects RX11 yX11_canReckon yX11_canReckon ∈ WG := WG_mem 20 rfl rfl
theorem we_yX11_areTold : Cond.selects RX11 yX11_areTold yX11_areTold ∈ WG := WG_mem 21 rfl rfl
theorem we_yX11_livesAsItIs : Cond.selects RX11 yX11_livesAsItIs yX11_livesAsItIs ∈ WG := WG_mem 22 rfl rfl
theorem we_yX2_clear : Cond.selects RX2 yX2_clear yX2_clear ∈ WG := WG_mem 23 rfl rfl
theorem we_yX2_add : Cond.selects RX2 yX2_add yX2_add ∈ WG := WG_mem 24 rfl rfl
theorem we_yX2_goOn : Cond.selects RX2 yX2_goOn yX2_goOn ∈ WG := WG_mem 25 rfl rfl
theorem we_yX2_comeBy : Cond.selects RX2 yX2_comeBy yX2_comeBy ∈ WG := WG_mem 26 rfl rfl
theorem we_yX2_isDead : Cond.selects RX2 yX2_isDead yX2_isDead ∈ WG := WG_mem 27 rfl rfl
theorem we_yX2_lookAt : Cond.selects RX2 yX2_lookAt yX2_lookAt ∈ WG := WG_mem 28 rfl rfl
theorem we_yX2_gift : Cond.selects RX2 yX2_gift yX2_gift ∈ WG := WG_mem 29 rfl rfl
theorem we_yX2_goDry : Cond.selects RX2 yX2_goDry yX2_goDry ∈ WG := WG_mem 30 rfl rfl
theorem we_yX2_behind : Cond.selects RX2 yX2_behind yX2_behind ∈ WG := WG_mem 31 rfl rfl
theorem we_yX2_living : Cond.selects RX2 yX2_living yX2_living ∈ WG := WG_mem 32 rfl rfl
theorem we_yX11_lastsWith : Cond.selects RX11 yX11_lastsWith yX11_lastsWith ∈ WG := WG_mem 33 rfl rfl
theorem we_yX10_takeRow : Cond.selects RX10 yX10_takeRow yX10_takeRow ∈ WG := WG_mem 34 rfl rfl
theorem we_yX11_fillLasting : Cond.selects RX11 yX11_fillLasting yX11_fillLasting ∈ WG := WG_mem 35 rfl rfl
theorem we_yX11_spreadBest : Cond.selects RX11 yX11_spreadBest yX11_spreadBest ∈ WG := WG_mem 36 rfl rfl
theorem we_yX11_least : Cond.selects RX11 yX11_least yX11_least ∈ WG := WG_mem 37 rfl rfl
theorem we_yX11_fillOdds : Cond.selects RX11 yX11_fillOdds yX11_fillOdds ∈ WG := WG_mem 38 rfl rfl
theorem we_yX11_theOne : Cond.selects RX11 yX11_theOne yX11_theOne ∈ WG := WG_mem 39 rfl rfl
theorem we_yX7_add : Cond.selects RX7 yX7_add yX7_add ∈ WG := WG_mem 40 rfl rfl
theorem we_yX11_rotaOn : Cond.selects RX11 yX11_rotaOn yX11_rotaOn ∈ WG := WG_mem 41 rfl rfl
theorem we_yX11_evenTenths : Cond.selects RX11 yX11_evenTenths yX11_evenTenths ∈ WG := WG_mem 42 rfl rfl
theorem we_yX11_nobodyGains : Cond.selects RX11 yX11_nobodyGains yX11_nobodyGains ∈ WG := WG_mem 43 rfl rfl
theorem we_yX11_worthOf : Cond.selects RX11 yX11_worthOf yX11_worthOf ∈ WG := WG_mem 44 rfl rfl
theorem we_yX11_fits : Cond.selects RX11 yX11_fits yX11_fits ∈ WG := WG_mem 45 rfl rfl
theorem we_yX11_countPerson : Cond.selects RX11 yX11_countPerson yX11_countPerson ∈ WG := WG_mem 46 rfl rfl
theorem we_yX12_isPlant : Cond.selects RX12 yX12_isPlant yX12_isPlant ∈ WG := WG_mem 47 rfl rfl
theorem we_yX12_lives : Cond.selects RX12 yX12_lives yX12_lives ∈ WG := WG_mem 48 rfl rfl
theorem we_yX12_types : Cond.selects RX12 yX12_types yX12_types ∈ WG := WG_mem 49 rfl rfl
theorem we_yX12_reads : Cond.selects RX12 yX12_reads yX12_reads ∈ WG := WG_mem 50 rfl rfl
theorem we_yX12_readsClause : Cond.selects RX12 yX12_readsClause yX12_readsClause ∈ WG := WG_mem 51 rfl rfl
theorem we_yX12_here : Cond.selects RX12 yX12_here yX12_here ∈ WG := WG_mem 52 rfl rfl
theorem we_yX12_wrongAt : Cond.selects RX12 yX12_wrongAt yX12_wrongAt ∈ WG := WG_mem 53 rfl rfl
theorem we_yX12_readsSum : Cond.selects RX12 yX12_readsSum yX12_readsSum ∈ WG := WG_mem 54 rfl rfl
theorem we_yX12_readsFactor : Cond.selects RX12 yX12_readsFactor yX12_readsFactor ∈ WG := WG_mem 55 rfl rfl
theorem we_yX12_opens : Cond.selects RX12 yX12_opens yX12_opens ∈ WG := WG_mem 56 rfl rfl
theorem we_yX12_isDigit : Cond.selects RX12 yX12_isDigit yX12_isDigit ∈ WG := WG_mem 57 rfl rfl
theorem we_yX12_readsNumber : Cond.selects RX12 yX12_readsNumber yX12_readsNumber ∈ WG := WG_mem 58 rfl rfl
theorem we_yX12_notes : Cond.selects RX12 yX12_notes yX12_notes ∈ WG := WG_mem 59 rfl rfl
theorem we_yX12_closesSums : Cond.selects RX12 yX12_closesSums yX12_closesSums ∈ WG := WG_mem 60 rfl rfl
theorem we_yX12_waitTop : Cond.selects RX12 yX12_waitTop yX12_waitTop ∈ WG := WG_mem 61 rfl rfl
theorem we_yX12_hasOpenSum : Cond.selects RX12 yX12_hasOpenSum yX12_hasOpenSum ∈ WG := WG_mem 62 rfl rfl
theorem we_yX12_readsCondition : Cond.selects RX12 yX12_readsCondition yX12_readsCondition ∈ WG := WG_mem 63 rfl rfl
theorem we_yX12_readsCompared : Cond.selects RX12 yX12_readsCompared yX12_readsCompared ∈ WG := WG_mem 64 rfl rfl
theorem we_yX12_endsPiece : Cond.selects RX12 yX12_endsPiece yX12_endsPiece ∈ WG := WG_mem 65 rfl rfl
theorem we_yX12_lands : Cond.selects RX12 yX12_lands yX12_lands ∈ WG := WG_mem 66 rfl rfl
theorem we_yX12_jumps : Cond.selects RX12 yX12_jumps yX12_jumps ∈ WG := WG_mem 67 rfl rfl
theorem we_yX12_takes : Cond.selects RX12 yX12_takes yX12_takes ∈ WG := WG_mem 68 rfl rfl
theorem we_yX12_isPerson : Cond.selects RX12 yX12_isPerson yX12_isPerson ∈ WG := WG_mem 69 rfl rfl
theorem we_yX12_cupsOf : Cond.selects RX12 yX12_cupsOf yX12_cupsOf ∈ WG := WG_mem 70 rfl rfl
theorem we_yX12_feelsPlant : Cond.selects RX12 yX12_feelsPlant yX12_feelsPlant ∈ WG := WG_mem 71 rfl rfl
theorem we_yX12_feels : Cond.selects RX12 yX12_feels yX12_feels ∈ WG := WG_mem 72 rfl rfl
theorem we_yX12_byText : Cond.selects RX12 yX12_byText yX12_byText ∈ WG := WG_mem 73 rfl rfl
theorem we_yX12_comesTo : Cond.selects RX12 yX12_comesTo yX12_comesTo ∈ WG := WG_mem 74 rfl rfl
theorem we_yX12_daysGo : Cond.selects RX12 yX12_daysGo yX12_daysGo ∈ WG := WG_mem 75 rfl rfl
theorem we_yX12_dayGoes : Cond.selects RX12 yX12_dayGoes yX12_dayGoes ∈ WG := WG_mem 76 rfl rfl
theorem we_yX12_draws : Cond.selects RX12 yX12_draws yX12_draws ∈ WG := WG_mem 77 rfl rfl
theorem we_yX12_waters : Cond.selects RX12 yX12_waters yX12_waters ∈ WG := WG_mem 78 rfl rfl
theorem we_yX12_dries : Cond.selects RX12 yX12_dries yX12_dries ∈ WG := WG_mem 79 rfl rfl
theorem we_yX12_canGo : Cond.selects RX12 yX12_canGo yX12_canGo ∈ WG := WG_mem 80 rfl rfl
theorem we_yX12_laysSome : Cond.selects RX12 yX12_laysSome yX12_laysSome ∈ WG := WG_mem 81 rfl rfl
theorem we_yX12_goesThrough : Cond.selects RX12 yX12_goesThrough yX12_goesThrough ∈ WG := WG_mem 82 rfl rfl
theorem we_yX12_comesBy : Cond.selects RX12 yX12_comesBy yX12_comesBy ∈ WG := WG_mem 83 rfl rfl
theorem we_yX12_cupsIn : Cond.selects RX12 yX12_cupsIn yX12_cupsIn ∈ WG := WG_mem 84 rfl rfl
theorem we_yX12_feelsState : Cond.selects RX12 yX12_feelsState yX12_feelsState ∈ WG := WG_mem 85 rfl rfl
theorem we_yX12_sunBy : Cond.selects RX12 yX12_sunBy yX12_sunBy ∈ WG := WG_mem 86 rfl rfl
theorem we_yX12_lastsWith : Cond.selects RX12 yX12_lastsWith yX12_lastsWith ∈ WG := WG_mem 87 rfl rfl
theorem we_yX12_laysSpread : Cond.selects RX12 yX12_laysSpread yX12_laysSpread ∈ WG := WG_mem 88 rfl rfl
theorem we_yX12_mayBe : Cond.selects RX12 yX12_mayBe yX12_mayBe ∈ WG := WG_mem 89 rfl rfl
theorem we_yX12_leastBy : Cond.selects RX12 yX12_leastBy yX12_leastBy ∈ WG := WG_mem 90 rfl rfl
theorem we_yX12_wetBehind : Cond.selects RX12 yX12_wetBehind yX12_wetBehind ∈ WG := WG_mem 91 rfl rfl
theorem we_yX12_areTenths : Cond.selects RX12 yX12_areTenths yX12_areTenths ∈ WG := WG_mem 92 rfl rfl
theorem we_yX12_laysComes : Cond.selects RX12 yX12_laysComes yX12_laysComes ∈ WG := WG_mem 93 rfl rfl
theorem we_yX12_readsWeek : Cond.selects RX12 yX12_readsWeek yX12_readsWeek ∈ WG := WG_mem 94 rfl rfl
theorem we_yX12_goesByRota : Cond.selects RX12 yX12_goesByRota yX12_goesByRota ∈ WG := WG_mem 95 rfl rfl
theorem we_yX12_laysAlone : Cond.selects RX12 yX12_laysAlone yX12_laysAlone ∈ WG := WG_mem 96 rfl rfl
theorem we_yX12_waterBy : Cond.selects RX12 yX12_waterBy yX12_waterBy ∈ WG := WG_mem 97 rfl rfl
theorem we_yX12_gainOf : Cond.selects RX12 yX12_gainOf yX12_gainOf ∈ WG := WG_mem 98 rfl rfl
theorem we_yX12_tapeNumber : Cond.selects RX12 yX12_tapeNumber yX12_tapeNumber ∈ WG := WG_mem 99 rfl rfl
theorem wx_X0 : ∀ w ∈ u_ws RX0 TX0 4, w ∈ WG := fun w h => List.mem_filter.mpr ⟨(goodIn_r (big := lw_tbl) (u_ws RX0 TX0 4) [341, 343, 345, 347] (by decide +kernel) (by decide +kernel) w h).1, List.all_eq_true.mp (by decide +kernel : (u_ws RX0 TX0 4).all goodWord = true) w h⟩
theorem wx_X1 : ∀ w ∈ u_ws RX1 TX1 6, w ∈ WG := fun w h => List.mem_filter.mpr ⟨(goodIn_r (big := lw_tbl) (u_ws RX1 TX1 6) [390, 392, 394, 396, 398, 400] (by decide +kernel) (by decide +kernel) w h).1, List.all_eq_true.mp (by decide +kernel : (u_ws RX1 TX1 6).all goodWord = true) w h⟩
theorem wx_X2 : ∀ w ∈ u_ws RX2 TX2 17, w ∈ WG := fun w h => List.mem_filter.mpr ⟨(goodIn_r (big := lw_tbl) (u_ws RX2 TX2 17) [430, 432, 434, 436, 438, 440, 442, 444, 446, 448, 450, 452, 454, 456, 458, 460, 462] (by decide +kernel) (by decide +kernel) w h).1, List.all_eq_true.mp (by decide +kernel : (u_ws RX2 TX2 17).all goodWord = true) w h⟩
theorem wx_X3 : ∀ w ∈ u_ws RX3 TX3 8, w ∈ WG := fun w h => List.mem_filter.mpr ⟨(goodIn_r (big := lw_tbl) (u_ws RX3 TX3 8) [259, 261, 263, 265, 267, 269, 271, 273] (by decide +kernel) (by decide +kernel) w h).1, List.all_eq_true.mp (by decide +kernel : (u_ws RX3 TX3 8).all goodWord = true) w h⟩
theorem wx_X4 : ∀ w ∈ u_ws RX4 TX4 4, w ∈ WG := fun w h => List.mem_filter.mpr ⟨(goodIn_r (big := lw_tbl) (u_ws RX4 TX4 4) [221, 223, 225, 227] (by decide +kernel) (by decide +kernel) w h).1, List.all_eq_true.mp (by decide +kernel : (u_ws RX4 TX4 4).all goodWord = true) w h⟩
theorem wx_X5 : ∀ w ∈ u_ws RX5 TX5 9, w ∈ WG := fun w h => List.mem_filter.mpr ⟨(goodIn_r (big := lw_tbl) (u_ws RX5 TX5 9) [179, 181, 183, 185, 187, 189, 191, 193, 195] (by decide +kernel) (by decide +kernel) w h).1, List.all_eq_true.mp (by decide +kernel : (u_ws RX5 TX5 9).all goodWord = true) w h⟩
theorem wx_X6 : ∀ w ∈ u_ws RX6 TX6 6, w ∈ WG := fun w h => List.mem_filter.mpr ⟨(goodIn_r (big := lw_tbl) (u_ws RX6 TX6 6) [364, 366, 368, 370, 372, 374] (by decide +kernel) (by decide +kernel) w h).1, List.all_eq_true.mp (by decide +kernel : (u_ws RX6 TX6 6).all goodWord = true) w h⟩
theorem wx_X7 : ∀ w ∈ u_ws RX7 TX7 2, w ∈ WG := fun w h => List.mem_filter.mpr ⟨(goodIn_r (big := lw_tbl) (u_ws RX7 TX7 2) [510, 512] (by decide +kernel) (by decide +kernel) w h).1, List.all_eq_true.mp (by decide +kernel : (u_ws RX7 TX7 2).all goodWord = true) w h⟩
theorem wx_X8 : ∀ w ∈ u_ws RX8 TX8 2, w ∈ WG := fun w h => List.mem_filter.mpr ⟨(goodIn_r (big := lw_tbl) (u_ws RX8 TX8 2) [285, 287] (by decide +kernel) (by decide +kernel) w h).1, List.all_eq_true.mp (by decide +kernel : (u_ws RX8 TX8 2).all goodWord = true) w h⟩
theorem wx_X9 : ∀ w ∈ u_ws RX9 TX9 6, w ∈ WG := fun w h => List.mem_filter.mpr ⟨(goodIn_r (big := lw_tbl) (u_ws RX9 TX9 6) [316, 318, 320, 322, 324, 326] (by decide +kernel) (by decide +kernel) w h).1, List.all_eq_true.mp (by decide +kernel : (u_ws RX9 TX9 6).all goodWord = true) w h⟩
theorem wx_X10 : ∀ w ∈ u_ws RX10 TX10 8, w ∈ WG := fun w h => List.mem_filter.mpr ⟨(goodIn_r (big := lw_tbl) (u_ws RX10 TX10 8) [484, 486, 488, 490, 492, 494, 496, 498] (by decide +kernel) (by decide +kernel) w h).1, List.all_eq_true.mp (by decide +kernel : (u_ws RX10 TX10 8).all goodWord = true) w h⟩
theorem wx_X11 : ∀ w ∈ u_ws RX11 TX11 12, w ∈ WG := fun w h => List.mem_filter.mpr ⟨(goodIn_r (big := lw_tbl) (u_ws RX11 TX11 12) [527, 529, 531, 533, 535, 537, 539, 541, 543, 545, 547, 549] (by decide +kernel) (by decide +kernel) w h).1, List.all_eq_true.mp (by decide +kernel : (u_ws RX11 TX11 12).all goodWord = true) w h⟩
theorem wx_X12 : ∀ w ∈ u_ws RX12 TX12 54, w ∈ WG := fun w h => List.mem_filter.mpr ⟨(goodIn_r (big := lw_tbl) (u_ws RX12 TX12 54) [1355, 1357, 1359, 1361, 1363, 1365, 1367, 1369, 1371, 1373, 1375, 1377, 1379, 1381, 1383, 1385, 1387, 1389, 1391, 1393, 1395, 1397, 1399, 1401, 1403, 1405, 1407, 1409, 1411, 1413, 1415, 1417, 1419, 1421, 1423, 1425, 1427, 1429, 1431, 1433, 1435, 1437, 1439, 1441, 1443, 1445, 1447, 1449, 1451, 1453, 1455, 1457, 1459, 1461] (by decide +kernel) (by decide +kernel) w h).1, List.all_eq_true.mp (by decide +kernel : (u_ws RX12 TX12 54).all goodWord = true) w h⟩
