/-! the law's own rows (written by wip/whole/gen4.py) -/
theorem q_allT {f : q_I → Bool} {l : List q_I} (n : Nat) (h1 : (l.take n).all f = true) (h2 : (l.drop n).all f = true) : l.all f = true := by
  rw [← List.take_append_drop n l, List.all_append, h1, h2]
  rfl
theorem kaL0 : ((rL_law.drop 0).take 40).all (q_rck q_mt 438 mL_law) = true := by decide +kernel
theorem kaL1 : ((rL_law.drop 40).take 40).all (q_rck q_mt 438 mL_law) = true := by decide +kernel
theorem kaL2 : ((rL_law.drop 80).take 40).all (q_rck q_mt 438 mL_law) = true := by decide +kernel
theorem kaL3 : ((rL_law.drop 120).take 40).all (q_rck q_mt 438 mL_law) = true := by decide +kernel
theorem kaL4 : ((rL_law.drop 160).take 40).all (q_rck q_mt 438 mL_law) = true := by decide +kernel
theorem kaL5 : ((rL_law.drop 200).take 40).all (q_rck q_mt 438 mL_law) = true := by decide +kernel
theorem kaL6 : ((rL_law.drop 240).take 40).all (q_rck q_mt 438 mL_law) = true := by decide +kernel
theorem kaL7 : ((rL_law.drop 280).take 40).all (q_rck q_mt 438 mL_law) = true := by decide +kernel
theorem kaL8 : ((rL_law.drop 320).take 40).all (q_rck q_mt 438 mL_law) = true := by decide +kernel
theorem kaL9 : ((rL_law.drop 360).take 40).all (q_rck q_mt 438 mL_law) = true := by decide +kernel
theorem kaL10 : ((rL_law.drop 400).take 40).all (q_rck q_mt 438 mL_law) = true := by decide +kernel
theorem kaL11 : ((rL_law.drop 440).take 40).all (q_rck q_mt 438 mL_law) = true := by decide +kernel
theorem kaL12 : ((rL_law.drop 480).take 40).all (q_rck q_mt 438 mL_law) = true := by decide +kernel
theorem kaL13 : ((rL_law.drop 520).take 40).all (q_rck q_mt 438 mL_law) = true := by decide +kernel
theorem kaL14 : ((rL_law.drop 560).take 40).all (q_rck q_mt 438 mL_law) = true := by decide +kernel
theorem kaL15 : ((rL_law.drop 600).take 40).all (q_rck q_mt 438 mL_law) = true := by decide +kernel
theorem kaL16 : ((rL_law.drop 640).take 40).all (q_rck q_mt 438 mL_law) = true := by decide +kernel
theorem kaL17 : ((rL_law.drop 680).take 40).all (q_rck q_mt 438 mL_law) = true := by decide +kernel
theorem kaL18 : ((rL_law.drop 720).take 40).all (q_rck q_mt 438 mL_law) = true := by decide +kernel
theorem kaL19 : ((rL_law.drop 760).take 40).all (q_rck q_mt 438 mL_law) = true := by decide +kernel
theorem kaL20 : ((rL_law.drop 800).take 40).all (q_rck q_mt 438 mL_law) = true := by decide +kernel
theorem kaL21 : ((rL_law.drop 840).take 40).all (q_rck q_mt 438 mL_law) = true := by decide +kernel
theorem kaL22 : ((rL_law.drop 880).take 40).all (q_rck q_mt 438 mL_law) = true := by decide +kernel
theorem kaL23 : ((rL_law.drop 920).take 40).all (q_rck q_mt 438 mL_law) = true := by decide +kernel
theorem kaL24 : ((rL_law.drop 960).take 40).all (q_rck q_mt 438 mL_law) = true := by decide +kernel
theorem kaL25 : ((rL_law.drop 1000).take 40).all (q_rck q_mt 438 mL_law) = true := by decide +kernel
theorem kaL26 : ((rL_law.drop 1040).take 40).all (q_rck q_mt 438 mL_law) = true := by decide +kernel
theorem kaL27 : ((rL_law.drop 1080).take 40).all (q_rck q_mt 438 mL_law) = true := by decide +kernel
theorem kaL28 : ((rL_law.drop 1120).take 40).all (q_rck q_mt 438 mL_law) = true := by decide +kernel
theorem kaL29 : ((rL_law.drop 1160).take 40).all (q_rck q_mt 438 mL_law) = true := by decide +kernel
theorem kaL30 : ((rL_law.drop 1200).take 40).all (q_rck q_mt 438 mL_law) = true := by decide +kernel
theorem kbL31 : (rL_law.drop 1240).all (q_rck q_mt 438 mL_law) = true := by decide +kernel
theorem kbL30 : (rL_law.drop 1200).all (q_rck q_mt 438 mL_law) = true := q_allT 40 kaL30 (by rw [List.drop_drop]; exact kbL31)
theorem kbL29 : (rL_law.drop 1160).all (q_rck q_mt 438 mL_law) = true := q_allT 40 kaL29 (by rw [List.drop_drop]; exact kbL30)
theorem kbL28 : (rL_law.drop 1120).all (q_rck q_mt 438 mL_law) = true := q_allT 40 kaL28 (by rw [List.drop_drop]; exact kbL29)
theorem kbL27 : (rL_law.drop 1080).all (q_rck q_mt 438 mL_law) = true := q_allT 40 kaL27 (by rw [List.drop_drop]; exact kbL28)
theorem kbL26 : (rL_law.drop 1040).all (q_rck q_mt 438 mL_law) = true := q_allT 40 kaL26 (by rw [List.drop_drop]; exact kbL27)
theorem kbL25 : (rL_law.drop 1000).all (q_rck q_mt 438 mL_law) = true := q_allT 40 kaL25 (by rw [List.drop_drop]; exact kbL26)
theorem kbL24 : (rL_law.drop 960).all (q_rck q_mt 438 mL_law) = true := q_allT 40 kaL24 (by rw [List.drop_drop]; exact kbL25)
theorem kbL23 : (rL_law.drop 920).all (q_rck q_mt 438 mL_law) = true := q_allT 40 kaL23 (by rw [List.drop_drop]; exact kbL24)
theorem kbL22 : (rL_law.drop 880).all (q_rck q_mt 438 mL_law) = true := q_allT 40 kaL22 (by rw [List.drop_drop]; exact kbL23)
theorem kbL21 : (rL_law.drop 840).all (q_rck q_mt 438 mL_law) = true := q_allT 40 kaL21 (by rw [List.drop_drop]; exact kbL22)
theorem kbL20 : (rL_law.drop 800).all (q_rck q_mt 438 mL_law) = true := q_allT 40 kaL20 (by rw [List.drop_drop]; exact kbL21)
theorem kbL19 : (rL_law.drop 760).all (q_rck q_mt 438 mL_law) = true := q_allT 40 kaL19 (by rw [List.drop_drop]; exact kbL20)
theorem kbL18 : (rL_law.drop 720).all (q_rck q_mt 438 mL_law) = true := q_allT 40 kaL18 (by rw [List.drop_drop]; exact kbL19)
theorem kbL17 : (rL_law.drop 680).all (q_rck q_mt 438 mL_law) = true := q_allT 40 kaL17 (by rw [List.drop_drop]; exact kbL18)
theorem kbL16 : (rL_law.drop 640).all (q_rck q_mt 438 mL_law) = true := q_allT 40 kaL16 (by rw [List.drop_drop]; exact kbL17)
theorem kbL15 : (rL_law.drop 600).all (q_rck q_mt 438 mL_law) = true := q_allT 40 kaL15 (by rw [List.drop_drop]; exact kbL16)
theorem kbL14 : (rL_law.drop 560).all (q_rck q_mt 438 mL_law) = true := q_allT 40 kaL14 (by rw [List.drop_drop]; exact kbL15)
theorem kbL13 : (rL_law.drop 520).all (q_rck q_mt 438 mL_law) = true := q_allT 40 kaL13 (by rw [List.drop_drop]; exact kbL14)
theorem kbL12 : (rL_law.drop 480).all (q_rck q_mt 438 mL_law) = true := q_allT 40 kaL12 (by rw [List.drop_drop]; exact kbL13)
theorem kbL11 : (rL_law.drop 440).all (q_rck q_mt 438 mL_law) = true := q_allT 40 kaL11 (by rw [List.drop_drop]; exact kbL12)
theorem kbL10 : (rL_law.drop 400).all (q_rck q_mt 438 mL_law) = true := q_allT 40 kaL10 (by rw [List.drop_drop]; exact kbL11)
theorem kbL9 : (rL_law.drop 360).all (q_rck q_mt 438 mL_law) = true := q_allT 40 kaL9 (by rw [List.drop_drop]; exact kbL10)
theorem kbL8 : (rL_law.drop 320).all (q_rck q_mt 438 mL_law) = true := q_allT 40 kaL8 (by rw [List.drop_drop]; exact kbL9)
theorem kbL7 : (rL_law.drop 280).all (q_rck q_mt 438 mL_law) = true := q_allT 40 kaL7 (by rw [List.drop_drop]; exact kbL8)
theorem kbL6 : (rL_law.drop 240).all (q_rck q_mt 438 mL_law) = true := q_allT 40 kaL6 (by rw [List.drop_drop]; exact kbL7)
theorem kbL5 : (rL_law.drop 200).all (q_rck q_mt 438 mL_law) = true := q_allT 40 kaL5 (by rw [List.drop_drop]; exact kbL6)
theorem kbL4 : (rL_law.drop 160).all (q_rck q_mt 438 mL_law) = true := q_allT 40 kaL4 (by rw [List.drop_drop]; exact kbL5)
theorem kbL3 : (rL_law.drop 120).all (q_rck q_mt 438 mL_law) = true := q_allT 40 kaL3 (by rw [List.drop_drop]; exact kbL4)
theorem kbL2 : (rL_law.drop 80).all (q_rck q_mt 438 mL_law) = true := q_allT 40 kaL2 (by rw [List.drop_drop]; exact kbL3)
theorem kbL1 : (rL_law.drop 40).all (q_rck q_mt 438 mL_law) = true := q_allT 40 kaL1 (by rw [List.drop_drop]; exact kbL2)
theorem kbL0 : (rL_law.drop 0).all (q_rck q_mt 438 mL_law) = true := q_allT 40 kaL0 (by rw [List.drop_drop]; exact kbL1)
theorem kaL_law : rL_law.all (q_rck q_mt 438 mL_law) = true := kbL0
