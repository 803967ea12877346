theorem all_cut {α : Type} {p : α → Bool} {l : List α} (n : Nat) (h1 : (l.take n).all p = true) (h2 : (l.drop n).all p = true) : l.all p = true := by
  rw [← List.take_append_drop n l, List.all_append, h1, h2]
  rfl
set_option maxRecDepth 100000 in
theorem oc122_0 : ((k122.drop 0).take 40).all (eOk (mY m122) (mB m122)) = true := by decide +kernel
set_option maxRecDepth 100000 in
theorem oc122_1 : ((k122.drop 40).take 40).all (eOk (mY m122) (mB m122)) = true := by decide +kernel
set_option maxRecDepth 100000 in
theorem oc122_2 : ((k122.drop 80).take 40).all (eOk (mY m122) (mB m122)) = true := by decide +kernel
set_option maxRecDepth 100000 in
theorem oc122_3 : (k122.drop 120).all (eOk (mY m122) (mB m122)) = true := by decide +kernel
theorem oc122 : k122.all (eOk (mY m122) (mB m122)) = true := by
  have h : (k122.drop 0).all (eOk (mY m122) (mB m122)) = true := all_cut 40 oc122_0 (by rw [List.drop_drop]; exact all_cut 40 oc122_1 (by rw [List.drop_drop]; exact all_cut 40 oc122_2 (by rw [List.drop_drop]; exact oc122_3)))
  exact h
set_option maxRecDepth 100000 in
theorem ok122 : (mOk m122 && k122.all (eOk (mY m122) (mB m122))) = true := by
  rw [oc122]
  decide +kernel
set_option maxRecDepth 100000 in
theorem oc140_0 : ((k140.drop 0).take 40).all (eOk (mY m140) (mB m140)) = true := by decide +kernel
set_option maxRecDepth 100000 in
theorem oc140_1 : ((k140.drop 40).take 40).all (eOk (mY m140) (mB m140)) = true := by decide +kernel
set_option maxRecDepth 100000 in
theorem oc140_2 : ((k140.drop 80).take 40).all (eOk (mY m140) (mB m140)) = true := by decide +kernel
set_option maxRecDepth 100000 in
theorem oc140_3 : ((k140.drop 120).take 40).all (eOk (mY m140) (mB m140)) = true := by decide +kernel
set_option maxRecDepth 100000 in
theorem oc140_4 : ((k140.drop 160).take 40).all (eOk (mY m140) (mB m140)) = true := by decide +kernel
set_option maxRecDepth 100000 in
theorem oc140_5 : ((k140.drop 200).take 40).all (eOk (mY m140) (mB m140)) = true := by decide +kernel
set_option maxRecDepth 100000 in
theorem oc140_6 : ((k140.drop 240).take 40).all (eOk (mY m140) (mB m140)) = true := by decide +kernel
set_option maxRecDepth 100000 in
theorem oc140_7 : ((k140.drop 280).take 40).all (eOk (mY m140) (mB m140)) = true := by decide +kernel
set_option maxRecDepth 100000 in
theorem oc140_8 : (k140.drop 320).all (eOk (mY m140) (mB m140)) = true := by decide +kernel
theorem oc140 : k140.all (eOk (mY m140) (mB m140)) = true := by
  have h : (k140.drop 0).all (eOk (mY m140) (mB m140)) = true := all_cut 40 oc140_0 (by rw [List.drop_drop]; exact all_cut 40 oc140_1 (by rw [List.drop_drop]; exact all_cut 40 oc140_2 (by rw [List.drop_drop]; exact all_cut 40 oc140_3 (by rw [List.drop_drop]; exact all_cut 40 oc140_4 (by rw [List.drop_drop]; exact all_cut 40 oc140_5 (by rw [List.drop_drop]; exact all_cut 40 oc140_6 (by rw [List.drop_drop]; exact all_cut 40 oc140_7 (by rw [List.drop_drop]; exact oc140_8))))))))
  exact h
set_option maxRecDepth 100000 in
theorem ok140 : (mOk m140 && k140.all (eOk (mY m140) (mB m140))) = true := by
  rw [oc140]
  decide +kernel
set_option maxRecDepth 100000 in
theorem oc157_0 : ((k157.drop 0).take 40).all (eOk (mY m157) (mB m157)) = true := by decide +kernel
set_option maxRecDepth 100000 in
theorem oc157_1 : ((k157.drop 40).take 40).all (eOk (mY m157) (mB m157)) = true := by decide +kernel
set_option maxRecDepth 100000 in
theorem oc157_2 : ((k157.drop 80).take 40).all (eOk (mY m157) (mB m157)) = true := by decide +kernel
set_option maxRecDepth 100000 in
theorem oc157_3 : (k157.drop 120).all (eOk (mY m157) (mB m157)) = true := by decide +kernel
theorem oc157 : k157.all (eOk (mY m157) (mB m157)) = true := by
  have h : (k157.drop 0).all (eOk (mY m157) (mB m157)) = true := all_cut 40 oc157_0 (by rw [List.drop_drop]; exact all_cut 40 oc157_1 (by rw [List.drop_drop]; exact all_cut 40 oc157_2 (by rw [List.drop_drop]; exact oc157_3)))
  exact h
set_option maxRecDepth 100000 in
theorem ok157 : (mOk m157 && k157.all (eOk (mY m157) (mB m157))) = true := by
  rw [oc157]
  decide +kernel
set_option maxRecDepth 100000 in
theorem oc167_0 : ((k167.drop 0).take 40).all (eOk (mY m167) (mB m167)) = true := by decide +kernel
set_option maxRecDepth 100000 in
theorem oc167_1 : ((k167.drop 40).take 40).all (eOk (mY m167) (mB m167)) = true := by decide +kernel
set_option maxRecDepth 100000 in
theorem oc167_2 : ((k167.drop 80).take 40).all (eOk (mY m167) (mB m167)) = true := by decide +kernel
set_option maxRecDepth 100000 in
theorem oc167_3 : (k167.drop 120).all (eOk (mY m167) (mB m167)) = true := by decide +kernel
theorem oc167 : k167.all (eOk (mY m167) (mB m167)) = true := by
  have h : (k167.drop 0).all (eOk (mY m167) (mB m167)) = true := all_cut 40 oc167_0 (by rw [List.drop_drop]; exact all_cut 40 oc167_1 (by rw [List.drop_drop]; exact all_cut 40 oc167_2 (by rw [List.drop_drop]; exact oc167_3)))
  exact h
set_option maxRecDepth 100000 in
theorem ok167 : (mOk m167 && k167.all (eOk (mY m167) (mB m167))) = true := by
  rw [oc167]
  decide +kernel
set_option maxRecDepth 100000 in
theorem oc218_0 : ((k218.drop 0).take 40).all (eOk (mY m218) (mB m218)) = true := by decide +kernel
set_option maxRecDepth 100000 in
theorem oc218_1 : ((k218.drop 40).take 40).all (eOk (mY m218) (mB m218)) = true := by decide +kernel
set_option maxRecDepth 100000 in
theorem oc218_2 : ((k218.drop 80).take 40).all (eOk (mY m218) (mB m218)) = true := by decide +kernel
set_option maxRecDepth 100000 in
theorem oc218_3 : (k218.drop 120).all (eOk (mY m218) (mB m218)) = true := by decide +kernel
theorem oc218 : k218.all (eOk (mY m218) (mB m218)) = true := by
  have h : (k218.drop 0).all (eOk (mY m218) (mB m218)) = true := all_cut 40 oc218_0 (by rw [List.drop_drop]; exact all_cut 40 oc218_1 (by rw [List.drop_drop]; exact all_cut 40 oc218_2 (by rw [List.drop_drop]; exact oc218_3)))
  exact h
set_option maxRecDepth 100000 in
theorem ok218 : (mOk m218 && k218.all (eOk (mY m218) (mB m218))) = true := by
  rw [oc218]
  decide +kernel
set_option maxRecDepth 100000 in
theorem oc219_0 : ((k219.drop 0).take 40).all (eOk (mY m219) (mB m219)) = true := by decide +kernel
set_option maxRecDepth 100000 in
theorem oc219_1 : ((k219.drop 40).take 40).all (eOk (mY m219) (mB m219)) = true := by decide +kernel
set_option maxRecDepth 100000 in
theorem oc219_2 : ((k219.drop 80).take 40).all (eOk (mY m219) (mB m219)) = true := by decide +kernel
set_option maxRecDepth 100000 in
theorem oc219_3 : (k219.drop 120).all (eOk (mY m219) (mB m219)) = true := by decide +kernel
theorem oc219 : k219.all (eOk (mY m219) (mB m219)) = true := by
  have h : (k219.drop 0).all (eOk (mY m219) (mB m219)) = true := all_cut 40 oc219_0 (by rw [List.drop_drop]; exact all_cut 40 oc219_1 (by rw [List.drop_drop]; exact all_cut 40 oc219_2 (by rw [List.drop_drop]; exact oc219_3)))
  exact h
set_option maxRecDepth 100000 in
theorem ok219 : (mOk m219 && k219.all (eOk (mY m219) (mB m219))) = true := by
  rw [oc219]
  decide +kernel
set_option maxRecDepth 100000 in
theorem oc236_0 : ((k236.drop 0).take 40).all (eOk (mY m236) (mB m236)) = true := by decide +kernel
set_option maxRecDepth 100000 in
theorem oc236_1 : ((k236.drop 40).take 40).all (eOk (mY m236) (mB m236)) = true := by decide +kernel
set_option maxRecDepth 100000 in
theorem oc236_2 : (k236.drop 80).all (eOk (mY m236) (mB m236)) = true := by decide +kernel
theorem oc236 : k236.all (eOk (mY m236) (mB m236)) = true := by
  have h : (k236.drop 0).all (eOk (mY m236) (mB m236)) = true := all_cut 40 oc236_0 (by rw [List.drop_drop]; exact all_cut 40 oc236_1 (by rw [List.drop_drop]; exact oc236_2))
  exact h
set_option maxRecDepth 100000 in
theorem ok236 : (mOk m236 && k236.all (eOk (mY m236) (mB m236))) = true := by
  rw [oc236]
  decide +kernel
set_option maxRecDepth 100000 in
theorem okLaw_0 : ((kLaw.drop 0).take 40).all (eOk x code) = true := by decide +kernel
set_option maxRecDepth 100000 in
theorem okLaw_1 : ((kLaw.drop 40).take 40).all (eOk x code) = true := by decide +kernel
set_option maxRecDepth 100000 in
theorem okLaw_2 : ((kLaw.drop 80).take 40).all (eOk x code) = true := by decide +kernel
set_option maxRecDepth 100000 in
theorem okLaw_3 : ((kLaw.drop 120).take 40).all (eOk x code) = true := by decide +kernel
set_option maxRecDepth 100000 in
theorem okLaw_4 : ((kLaw.drop 160).take 40).all (eOk x code) = true := by decide +kernel
set_option maxRecDepth 100000 in
theorem okLaw_5 : ((kLaw.drop 200).take 40).all (eOk x code) = true := by decide +kernel
set_option maxRecDepth 100000 in
theorem okLaw_6 : ((kLaw.drop 240).take 40).all (eOk x code) = true := by decide +kernel
set_option maxRecDepth 100000 in
theorem okLaw_7 : ((kLaw.drop 280).take 40).all (eOk x code) = true := by decide +kernel
set_option maxRecDepth 100000 in
theorem okLaw_8 : ((kLaw.drop 320).take 40).all (eOk x code) = true := by decide +kernel
set_option maxRecDepth 100000 in
theorem okLaw_9 : ((kLaw.drop 360).take 40).all (eOk x code) = true := by decide +kernel
set_option maxRecDepth 100000 in
theorem okLaw_10 : ((kLaw.drop 400).take 40).all (eOk x code) = true := by decide +kernel
set_option maxRecDepth 100000 in
theorem okLaw_11 : ((kLaw.drop 440).take 40).all (eOk x code) = true := by decide +kernel
set_option maxRecDepth 100000 in
theorem okLaw_12 : ((kLaw.drop 480).take 40).all (eOk x code) = true := by decide +kernel
set_option maxRecDepth 100000 in
theorem okLaw_13 : ((kLaw.drop 520).take 40).all (eOk x code) = true := by decide +kernel
set_option maxRecDepth 100000 in
theorem okLaw_14 : ((kLaw.drop 560).take 40).all (eOk x code) = true := by decide +kernel
set_option maxRecDepth 100000 in
theorem okLaw_15 : ((kLaw.drop 600).take 40).all (eOk x code) = true := by decide +kernel
set_option maxRecDepth 100000 in
theorem okLaw_16 : ((kLaw.drop 640).take 40).all (eOk x code) = true := by decide +kernel
set_option maxRecDepth 100000 in
theorem okLaw_17 : ((kLaw.drop 680).take 40).all (eOk x code) = true := by decide +kernel
set_option maxRecDepth 100000 in
theorem okLaw_18 : ((kLaw.drop 720).take 40).all (eOk x code) = true := by decide +kernel
set_option maxRecDepth 100000 in
theorem okLaw_19 : ((kLaw.drop 760).take 40).all (eOk x code) = true := by decide +kernel
set_option maxRecDepth 100000 in
theorem okLaw_20 : ((kLaw.drop 800).take 40).all (eOk x code) = true := by decide +kernel
set_option maxRecDepth 100000 in
theorem okLaw_21 : ((kLaw.drop 840).take 40).all (eOk x code) = true := by decide +kernel
set_option maxRecDepth 100000 in
theorem okLaw_22 : ((kLaw.drop 880).take 40).all (eOk x code) = true := by decide +kernel
set_option maxRecDepth 100000 in
theorem okLaw_23 : ((kLaw.drop 920).take 40).all (eOk x code) = true := by decide +kernel
set_option maxRecDepth 100000 in
theorem okLaw_24 : (kLaw.drop 960).all (eOk x code) = true := by decide +kernel
theorem okLaw : kLaw.all (eOk x code) = true := by
  have h : (kLaw.drop 0).all (eOk x code) = true := all_cut 40 okLaw_0 (by rw [List.drop_drop]; exact all_cut 40 okLaw_1 (by rw [List.drop_drop]; exact all_cut 40 okLaw_2 (by rw [List.drop_drop]; exact all_cut 40 okLaw_3 (by rw [List.drop_drop]; exact all_cut 40 okLaw_4 (by rw [List.drop_drop]; exact all_cut 40 okLaw_5 (by rw [List.drop_drop]; exact all_cut 40 okLaw_6 (by rw [List.drop_drop]; exact all_cut 40 okLaw_7 (by rw [List.drop_drop]; exact all_cut 40 okLaw_8 (by rw [List.drop_drop]; exact all_cut 40 okLaw_9 (by rw [List.drop_drop]; exact all_cut 40 okLaw_10 (by rw [List.drop_drop]; exact all_cut 40 okLaw_11 (by rw [List.drop_drop]; exact all_cut 40 okLaw_12 (by rw [List.drop_drop]; exact all_cut 40 okLaw_13 (by rw [List.drop_drop]; exact all_cut 40 okLaw_14 (by rw [List.drop_drop]; exact all_cut 40 okLaw_15 (by rw [List.drop_drop]; exact all_cut 40 okLaw_16 (by rw [List.drop_drop]; exact all_cut 40 okLaw_17 (by rw [List.drop_drop]; exact all_cut 40 okLaw_18 (by rw [List.drop_drop]; exact all_cut 40 okLaw_19 (by rw [List.drop_drop]; exact all_cut 40 okLaw_20 (by rw [List.drop_drop]; exact all_cut 40 okLaw_21 (by rw [List.drop_drop]; exact all_cut 40 okLaw_22 (by rw [List.drop_drop]; exact all_cut 40 okLaw_23 (by rw [List.drop_drop]; exact okLaw_24))))))))))))))))))))))))
  exact h
