/-! ===== words by their places, the two worlds ===== -/
def es_NW (U : State) : Prop := va_Nw (.methodLinkNest RX3 58 yX7_inOrder RX7) U ∧ va_Nw (.methodLinkNest RX5 153 yX7_inOrder RX7) U
theorem es_ur1 : ∀ w ∈ wsL_law_r1, w ∈ wsL_law := fun _ h => List.mem_append_left _ (List.mem_append_left _ (List.mem_append_left _ (List.mem_append_left _ (List.mem_append_left _ (List.mem_append_left _ (List.mem_append_left _ (List.mem_append_left _ (List.mem_append_left _ (List.mem_append_left _ (List.mem_append_left _ h))))))))))
theorem es_ur2 : ∀ w ∈ wsL_law_r2, w ∈ wsL_law := fun _ h => List.mem_append_left _ (List.mem_append_left _ (List.mem_append_left _ (List.mem_append_left _ (List.mem_append_left _ (List.mem_append_left _ (List.mem_append_left _ (List.mem_append_left _ (List.mem_append_left _ (List.mem_append_left _ (List.mem_append_right _ (List.mem_append_left _ h)))))))))))
theorem es_ur3 : ∀ w ∈ wsL_law_r3, w ∈ wsL_law := fun _ h => List.mem_append_left _ (List.mem_append_left _ (List.mem_append_left _ (List.mem_append_left _ (List.mem_append_left _ (List.mem_append_left _ (List.mem_append_left _ (List.mem_append_left _ (List.mem_append_left _ (List.mem_append_left _ (List.mem_append_right _ (List.mem_append_right _ (List.mem_append_left _ h))))))))))))
theorem es_ur4 : ∀ w ∈ wsL_law_r4, w ∈ wsL_law := fun _ h => List.mem_append_left _ (List.mem_append_left _ (List.mem_append_left _ (List.mem_append_left _ (List.mem_append_left _ (List.mem_append_left _ (List.mem_append_left _ (List.mem_append_left _ (List.mem_append_left _ (List.mem_append_left _ (List.mem_append_right _ (List.mem_append_right _ (List.mem_append_right _ (List.mem_append_left _ h)))))))))))))
theorem es_ur5 : ∀ w ∈ wsL_law_r5, w ∈ wsL_law := fun _ h => List.mem_append_left _ (List.mem_append_left _ (List.mem_append_left _ (List.mem_append_left _ (List.mem_append_left _ (List.mem_append_left _ (List.mem_append_left _ (List.mem_append_left _ (List.mem_append_left _ (List.mem_append_left _ (List.mem_append_right _ (List.mem_append_right _ (List.mem_append_right _ (List.mem_append_right _ (List.mem_append_left _ h))))))))))))))
theorem es_ur6 : ∀ w ∈ wsL_law_r6, w ∈ wsL_law := fun _ h => List.mem_append_left _ (List.mem_append_left _ (List.mem_append_left _ (List.mem_append_left _ (List.mem_append_left _ (List.mem_append_left _ (List.mem_append_left _ (List.mem_append_left _ (List.mem_append_left _ (List.mem_append_left _ (List.mem_append_right _ (List.mem_append_right _ (List.mem_append_right _ (List.mem_append_right _ (List.mem_append_right _ (List.mem_append_left _ h)))))))))))))))
theorem es_ur7 : ∀ w ∈ wsL_law_r7, w ∈ wsL_law := fun _ h => List.mem_append_left _ (List.mem_append_left _ (List.mem_append_left _ (List.mem_append_left _ (List.mem_append_left _ (List.mem_append_left _ (List.mem_append_left _ (List.mem_append_left _ (List.mem_append_left _ (List.mem_append_left _ (List.mem_append_right _ (List.mem_append_right _ (List.mem_append_right _ (List.mem_append_right _ (List.mem_append_right _ (List.mem_append_right _ (List.mem_append_left _ h))))))))))))))))
theorem es_ur8 : ∀ w ∈ wsL_law_r8, w ∈ wsL_law := fun _ h => List.mem_append_left _ (List.mem_append_left _ (List.mem_append_left _ (List.mem_append_left _ (List.mem_append_left _ (List.mem_append_left _ (List.mem_append_left _ (List.mem_append_left _ (List.mem_append_left _ (List.mem_append_left _ (List.mem_append_right _ (List.mem_append_right _ (List.mem_append_right _ (List.mem_append_right _ (List.mem_append_right _ (List.mem_append_right _ (List.mem_append_right _ (List.mem_append_left _ h)))))))))))))))))
theorem es_ur9 : ∀ w ∈ wsL_law_r9, w ∈ wsL_law := fun _ h => List.mem_append_left _ (List.mem_append_left _ (List.mem_append_left _ (List.mem_append_left _ (List.mem_append_left _ (List.mem_append_left _ (List.mem_append_left _ (List.mem_append_left _ (List.mem_append_left _ (List.mem_append_left _ (List.mem_append_right _ (List.mem_append_right _ (List.mem_append_right _ (List.mem_append_right _ (List.mem_append_right _ (List.mem_append_right _ (List.mem_append_right _ (List.mem_append_right _ (List.mem_append_left _ h))))))))))))))))))
theorem es_ur10 : ∀ w ∈ wsL_law_r10, w ∈ wsL_law := fun _ h => List.mem_append_left _ (List.mem_append_left _ (List.mem_append_left _ (List.mem_append_left _ (List.mem_append_left _ (List.mem_append_left _ (List.mem_append_left _ (List.mem_append_left _ (List.mem_append_left _ (List.mem_append_left _ (List.mem_append_right _ (List.mem_append_right _ (List.mem_append_right _ (List.mem_append_right _ (List.mem_append_right _ (List.mem_append_right _ (List.mem_append_right _ (List.mem_append_right _ (List.mem_append_right _ (List.mem_append_left _ h)))))))))))))))))))
theorem es_ur11 : ∀ w ∈ wsL_law_r11, w ∈ wsL_law := fun _ h => List.mem_append_left _ (List.mem_append_left _ (List.mem_append_left _ (List.mem_append_left _ (List.mem_append_left _ (List.mem_append_left _ (List.mem_append_left _ (List.mem_append_left _ (List.mem_append_left _ (List.mem_append_left _ (List.mem_append_right _ (List.mem_append_right _ (List.mem_append_right _ (List.mem_append_right _ (List.mem_append_right _ (List.mem_append_right _ (List.mem_append_right _ (List.mem_append_right _ (List.mem_append_right _ (List.mem_append_right _ (List.mem_append_left _ h))))))))))))))))))))
theorem es_ur12 : ∀ w ∈ wsL_law_r12, w ∈ wsL_law := fun _ h => List.mem_append_left _ (List.mem_append_left _ (List.mem_append_left _ (List.mem_append_left _ (List.mem_append_left _ (List.mem_append_left _ (List.mem_append_left _ (List.mem_append_left _ (List.mem_append_left _ (List.mem_append_left _ (List.mem_append_right _ (List.mem_append_right _ (List.mem_append_right _ (List.mem_append_right _ (List.mem_append_right _ (List.mem_append_right _ (List.mem_append_right _ (List.mem_append_right _ (List.mem_append_right _ (List.mem_append_right _ (List.mem_append_right _ (List.mem_append_left _ h)))))))))))))))))))))
theorem es_ur13 : ∀ w ∈ wsL_law_r13, w ∈ wsL_law := fun _ h => List.mem_append_left _ (List.mem_append_left _ (List.mem_append_left _ (List.mem_append_left _ (List.mem_append_left _ (List.mem_append_left _ (List.mem_append_left _ (List.mem_append_left _ (List.mem_append_left _ (List.mem_append_left _ (List.mem_append_right _ (List.mem_append_right _ (List.mem_append_right _ (List.mem_append_right _ (List.mem_append_right _ (List.mem_append_right _ (List.mem_append_right _ (List.mem_append_right _ (List.mem_append_right _ (List.mem_append_right _ (List.mem_append_right _ (List.mem_append_right _ (List.mem_append_left _ h))))))))))))))))))))))
theorem es_ur14 : ∀ w ∈ wsL_law_r14, w ∈ wsL_law := fun _ h => List.mem_append_left _ (List.mem_append_left _ (List.mem_append_left _ (List.mem_append_left _ (List.mem_append_left _ (List.mem_append_left _ (List.mem_append_left _ (List.mem_append_left _ (List.mem_append_left _ (List.mem_append_left _ (List.mem_append_right _ (List.mem_append_right _ (List.mem_append_right _ (List.mem_append_right _ (List.mem_append_right _ (List.mem_append_right _ (List.mem_append_right _ (List.mem_append_right _ (List.mem_append_right _ (List.mem_append_right _ (List.mem_append_right _ (List.mem_append_right _ (List.mem_append_right _ (List.mem_append_left _ h)))))))))))))))))))))))
theorem es_ur15 : ∀ w ∈ wsL_law_r15, w ∈ wsL_law := fun _ h => List.mem_append_left _ (List.mem_append_left _ (List.mem_append_left _ (List.mem_append_left _ (List.mem_append_left _ (List.mem_append_left _ (List.mem_append_left _ (List.mem_append_left _ (List.mem_append_left _ (List.mem_append_left _ (List.mem_append_right _ (List.mem_append_right _ (List.mem_append_right _ (List.mem_append_right _ (List.mem_append_right _ (List.mem_append_right _ (List.mem_append_right _ (List.mem_append_right _ (List.mem_append_right _ (List.mem_append_right _ (List.mem_append_right _ (List.mem_append_right _ (List.mem_append_right _ (List.mem_append_right _ (List.mem_append_left _ h))))))))))))))))))))))))
theorem es_ur16 : ∀ w ∈ wsL_law_r16, w ∈ wsL_law := fun _ h => List.mem_append_left _ (List.mem_append_left _ (List.mem_append_left _ (List.mem_append_left _ (List.mem_append_left _ (List.mem_append_left _ (List.mem_append_left _ (List.mem_append_left _ (List.mem_append_left _ (List.mem_append_left _ (List.mem_append_right _ (List.mem_append_right _ (List.mem_append_right _ (List.mem_append_right _ (List.mem_append_right _ (List.mem_append_right _ (List.mem_append_right _ (List.mem_append_right _ (List.mem_append_right _ (List.mem_append_right _ (List.mem_append_right _ (List.mem_append_right _ (List.mem_append_right _ (List.mem_append_right _ (List.mem_append_right _ (List.mem_append_left _ h)))))))))))))))))))))))))
theorem es_ur17 : ∀ w ∈ wsL_law_r17, w ∈ wsL_law := fun _ h => List.mem_append_left _ (List.mem_append_left _ (List.mem_append_left _ (List.mem_append_left _ (List.mem_append_left _ (List.mem_append_left _ (List.mem_append_left _ (List.mem_append_left _ (List.mem_append_left _ (List.mem_append_left _ (List.mem_append_right _ (List.mem_append_right _ (List.mem_append_right _ (List.mem_append_right _ (List.mem_append_right _ (List.mem_append_right _ (List.mem_append_right _ (List.mem_append_right _ (List.mem_append_right _ (List.mem_append_right _ (List.mem_append_right _ (List.mem_append_right _ (List.mem_append_right _ (List.mem_append_right _ (List.mem_append_right _ (List.mem_append_right _ (List.mem_append_left _ h))))))))))))))))))))))))))
theorem es_ur18 : ∀ w ∈ wsL_law_r18, w ∈ wsL_law := fun _ h => List.mem_append_left _ (List.mem_append_left _ (List.mem_append_left _ (List.mem_append_left _ (List.mem_append_left _ (List.mem_append_left _ (List.mem_append_left _ (List.mem_append_left _ (List.mem_append_left _ (List.mem_append_left _ (List.mem_append_right _ (List.mem_append_right _ (List.mem_append_right _ (List.mem_append_right _ (List.mem_append_right _ (List.mem_append_right _ (List.mem_append_right _ (List.mem_append_right _ (List.mem_append_right _ (List.mem_append_right _ (List.mem_append_right _ (List.mem_append_right _ (List.mem_append_right _ (List.mem_append_right _ (List.mem_append_right _ (List.mem_append_right _ (List.mem_append_right _ (List.mem_append_left _ h)))))))))))))))))))))))))))
theorem es_ur19 : ∀ w ∈ wsL_law_r19, w ∈ wsL_law := fun _ h => List.mem_append_left _ (List.mem_append_left _ (List.mem_append_left _ (List.mem_append_left _ (List.mem_append_left _ (List.mem_append_left _ (List.mem_append_left _ (List.mem_append_left _ (List.mem_append_left _ (List.mem_append_left _ (List.mem_append_right _ (List.mem_append_right _ (List.mem_append_right _ (List.mem_append_right _ (List.mem_append_right _ (List.mem_append_right _ (List.mem_append_right _ (List.mem_append_right _ (List.mem_append_right _ (List.mem_append_right _ (List.mem_append_right _ (List.mem_append_right _ (List.mem_append_right _ (List.mem_append_right _ (List.mem_append_right _ (List.mem_append_right _ (List.mem_append_right _ (List.mem_append_right _ (List.mem_append_left _ h))))))))))))))))))))))))))))
theorem es_ur20 : ∀ w ∈ wsL_law_r20, w ∈ wsL_law := fun _ h => List.mem_append_left _ (List.mem_append_left _ (List.mem_append_left _ (List.mem_append_left _ (List.mem_append_left _ (List.mem_append_left _ (List.mem_append_left _ (List.mem_append_left _ (List.mem_append_left _ (List.mem_append_left _ (List.mem_append_right _ (List.mem_append_right _ (List.mem_append_right _ (List.mem_append_right _ (List.mem_append_right _ (List.mem_append_right _ (List.mem_append_right _ (List.mem_append_right _ (List.mem_append_right _ (List.mem_append_right _ (List.mem_append_right _ (List.mem_append_right _ (List.mem_append_right _ (List.mem_append_right _ (List.mem_append_right _ (List.mem_append_right _ (List.mem_append_right _ (List.mem_append_right _ (List.mem_append_right _ (List.mem_append_left _ h)))))))))))))))))))))))))))))
theorem es_ur21 : ∀ w ∈ wsL_law_r21, w ∈ wsL_law := fun _ h => List.mem_append_left _ (List.mem_append_left _ (List.mem_append_left _ (List.mem_append_left _ (List.mem_append_left _ (List.mem_append_left _ (List.mem_append_left _ (List.mem_append_left _ (List.mem_append_left _ (List.mem_append_left _ (List.mem_append_right _ (List.mem_append_right _ (List.mem_append_right _ (List.mem_append_right _ (List.mem_append_right _ (List.mem_append_right _ (List.mem_append_right _ (List.mem_append_right _ (List.mem_append_right _ (List.mem_append_right _ (List.mem_append_right _ (List.mem_append_right _ (List.mem_append_right _ (List.mem_append_right _ (List.mem_append_right _ (List.mem_append_right _ (List.mem_append_right _ (List.mem_append_right _ (List.mem_append_right _ (List.mem_append_right _ (List.mem_append_left _ h))))))))))))))))))))))))))))))
theorem es_ur22 : ∀ w ∈ wsL_law_r22, w ∈ wsL_law := fun _ h => List.mem_append_left _ (List.mem_append_left _ (List.mem_append_left _ (List.mem_append_left _ (List.mem_append_left _ (List.mem_append_left _ (List.mem_append_left _ (List.mem_append_left _ (List.mem_append_left _ (List.mem_append_left _ (List.mem_append_right _ (List.mem_append_right _ (List.mem_append_right _ (List.mem_append_right _ (List.mem_append_right _ (List.mem_append_right _ (List.mem_append_right _ (List.mem_append_right _ (List.mem_append_right _ (List.mem_append_right _ (List.mem_append_right _ (List.mem_append_right _ (List.mem_append_right _ (List.mem_append_right _ (List.mem_append_right _ (List.mem_append_right _ (List.mem_append_right _ (List.mem_append_right _ (List.mem_append_right _ (List.mem_append_right _ (List.mem_append_right _ (List.mem_append_left _ h)))))))))))))))))))))))))))))))
theorem es_ur23 : ∀ w ∈ wsL_law_r23, w ∈ wsL_law := fun _ h => List.mem_append_left _ (List.mem_append_left _ (List.mem_append_left _ (List.mem_append_left _ (List.mem_append_left _ (List.mem_append_left _ (List.mem_append_left _ (List.mem_append_left _ (List.mem_append_left _ (List.mem_append_left _ (List.mem_append_right _ (List.mem_append_right _ (List.mem_append_right _ (List.mem_append_right _ (List.mem_append_right _ (List.mem_append_right _ (List.mem_append_right _ (List.mem_append_right _ (List.mem_append_right _ (List.mem_append_right _ (List.mem_append_right _ (List.mem_append_right _ (List.mem_append_right _ (List.mem_append_right _ (List.mem_append_right _ (List.mem_append_right _ (List.mem_append_right _ (List.mem_append_right _ (List.mem_append_right _ (List.mem_append_right _ (List.mem_append_right _ (List.mem_append_right _ (List.mem_append_left _ h))))))))))))))))))))))))))))))))
theorem es_ur24 : ∀ w ∈ wsL_law_r24, w ∈ wsL_law := fun _ h => List.mem_append_left _ (List.mem_append_left _ (List.mem_append_left _ (List.mem_append_left _ (List.mem_append_left _ (List.mem_append_left _ (List.mem_append_left _ (List.mem_append_left _ (List.mem_append_left _ (List.mem_append_left _ (List.mem_append_right _ (List.mem_append_right _ (List.mem_append_right _ (List.mem_append_right _ (List.mem_append_right _ (List.mem_append_right _ (List.mem_append_right _ (List.mem_append_right _ (List.mem_append_right _ (List.mem_append_right _ (List.mem_append_right _ (List.mem_append_right _ (List.mem_append_right _ (List.mem_append_right _ (List.mem_append_right _ (List.mem_append_right _ (List.mem_append_right _ (List.mem_append_right _ (List.mem_append_right _ (List.mem_append_right _ (List.mem_append_right _ (List.mem_append_right _ (List.mem_append_right _ (List.mem_append_left _ h)))))))))))))))))))))))))))))))))
theorem es_ur25 : ∀ w ∈ wsL_law_r25, w ∈ wsL_law := fun _ h => List.mem_append_left _ (List.mem_append_left _ (List.mem_append_left _ (List.mem_append_left _ (List.mem_append_left _ (List.mem_append_left _ (List.mem_append_left _ (List.mem_append_left _ (List.mem_append_left _ (List.mem_append_left _ (List.mem_append_right _ (List.mem_append_right _ (List.mem_append_right _ (List.mem_append_right _ (List.mem_append_right _ (List.mem_append_right _ (List.mem_append_right _ (List.mem_append_right _ (List.mem_append_right _ (List.mem_append_right _ (List.mem_append_right _ (List.mem_append_right _ (List.mem_append_right _ (List.mem_append_right _ (List.mem_append_right _ (List.mem_append_right _ (List.mem_append_right _ (List.mem_append_right _ (List.mem_append_right _ (List.mem_append_right _ (List.mem_append_right _ (List.mem_append_right _ (List.mem_append_right _ (List.mem_append_right _ (List.mem_append_left _ h))))))))))))))))))))))))))))))))))
theorem es_ur26 : ∀ w ∈ wsL_law_r26, w ∈ wsL_law := fun _ h => List.mem_append_left _ (List.mem_append_left _ (List.mem_append_left _ (List.mem_append_left _ (List.mem_append_left _ (List.mem_append_left _ (List.mem_append_left _ (List.mem_append_left _ (List.mem_append_left _ (List.mem_append_left _ (List.mem_append_right _ (List.mem_append_right _ (List.mem_append_right _ (List.mem_append_right _ (List.mem_append_right _ (List.mem_append_right _ (List.mem_append_right _ (List.mem_append_right _ (List.mem_append_right _ (List.mem_append_right _ (List.mem_append_right _ (List.mem_append_right _ (List.mem_append_right _ (List.mem_append_right _ (List.mem_append_right _ (List.mem_append_right _ (List.mem_append_right _ (List.mem_append_right _ (List.mem_append_right _ (List.mem_append_right _ (List.mem_append_right _ (List.mem_append_right _ (List.mem_append_right _ (List.mem_append_right _ (List.mem_append_right _ (List.mem_append_left _ h)))))))))))))))))))))))))))))))))))
theorem es_ur27 : ∀ w ∈ wsL_law_r27, w ∈ wsL_law := fun _ h => List.mem_append_left _ (List.mem_append_left _ (List.mem_append_left _ (List.mem_append_left _ (List.mem_append_left _ (List.mem_append_left _ (List.mem_append_left _ (List.mem_append_left _ (List.mem_append_left _ (List.mem_append_left _ (List.mem_append_right _ (List.mem_append_right _ (List.mem_append_right _ (List.mem_append_right _ (List.mem_append_right _ (List.mem_append_right _ (List.mem_append_right _ (List.mem_append_right _ (List.mem_append_right _ (List.mem_append_right _ (List.mem_append_right _ (List.mem_append_right _ (List.mem_append_right _ (List.mem_append_right _ (List.mem_append_right _ (List.mem_append_right _ (List.mem_append_right _ (List.mem_append_right _ (List.mem_append_right _ (List.mem_append_right _ (List.mem_append_right _ (List.mem_append_right _ (List.mem_append_right _ (List.mem_append_right _ (List.mem_append_right _ (List.mem_append_right _ (List.mem_append_left _ h))))))))))))))))))))))))))))))))))))
theorem es_ur28 : ∀ w ∈ wsL_law_r28, w ∈ wsL_law := fun _ h => List.mem_append_left _ (List.mem_append_left _ (List.mem_append_left _ (List.mem_append_left _ (List.mem_append_left _ (List.mem_append_left _ (List.mem_append_left _ (List.mem_append_left _ (List.mem_append_left _ (List.mem_append_left _ (List.mem_append_right _ (List.mem_append_right _ (List.mem_append_right _ (List.mem_append_right _ (List.mem_append_right _ (List.mem_append_right _ (List.mem_append_right _ (List.mem_append_right _ (List.mem_append_right _ (List.mem_append_right _ (List.mem_append_right _ (List.mem_append_right _ (List.mem_append_right _ (List.mem_append_right _ (List.mem_append_right _ (List.mem_append_right _ (List.mem_append_right _ (List.mem_append_right _ (List.mem_append_right _ (List.mem_append_right _ (List.mem_append_right _ (List.mem_append_right _ (List.mem_append_right _ (List.mem_append_right _ (List.mem_append_right _ (List.mem_append_right _ (List.mem_append_right _ (List.mem_append_left _ h)))))))))))))))))))))))))))))))))))))
theorem es_ur29 : ∀ w ∈ wsL_law_r29, w ∈ wsL_law := fun _ h => List.mem_append_left _ (List.mem_append_left _ (List.mem_append_left _ (List.mem_append_left _ (List.mem_append_left _ (List.mem_append_left _ (List.mem_append_left _ (List.mem_append_left _ (List.mem_append_left _ (List.mem_append_left _ (List.mem_append_right _ (List.mem_append_right _ (List.mem_append_right _ (List.mem_append_right _ (List.mem_append_right _ (List.mem_append_right _ (List.mem_append_right _ (List.mem_append_right _ (List.mem_append_right _ (List.mem_append_right _ (List.mem_append_right _ (List.mem_append_right _ (List.mem_append_right _ (List.mem_append_right _ (List.mem_append_right _ (List.mem_append_right _ (List.mem_append_right _ (List.mem_append_right _ (List.mem_append_right _ (List.mem_append_right _ (List.mem_append_right _ (List.mem_append_right _ (List.mem_append_right _ (List.mem_append_right _ (List.mem_append_right _ (List.mem_append_right _ (List.mem_append_right _ (List.mem_append_right _ (List.mem_append_left _ h))))))))))))))))))))))))))))))))))))))
theorem es_ur30 : ∀ w ∈ wsL_law_r30, w ∈ wsL_law := fun _ h => List.mem_append_left _ (List.mem_append_left _ (List.mem_append_left _ (List.mem_append_left _ (List.mem_append_left _ (List.mem_append_left _ (List.mem_append_left _ (List.mem_append_left _ (List.mem_append_left _ (List.mem_append_left _ (List.mem_append_right _ (List.mem_append_right _ (List.mem_append_right _ (List.mem_append_right _ (List.mem_append_right _ (List.mem_append_right _ (List.mem_append_right _ (List.mem_append_right _ (List.mem_append_right _ (List.mem_append_right _ (List.mem_append_right _ (List.mem_append_right _ (List.mem_append_right _ (List.mem_append_right _ (List.mem_append_right _ (List.mem_append_right _ (List.mem_append_right _ (List.mem_append_right _ (List.mem_append_right _ (List.mem_append_right _ (List.mem_append_right _ (List.mem_append_right _ (List.mem_append_right _ (List.mem_append_right _ (List.mem_append_right _ (List.mem_append_right _ (List.mem_append_right _ (List.mem_append_right _ (List.mem_append_right _ (h)))))))))))))))))))))))))))))))))))))))
/-! ===== a fixed world of cells over a state of numbers: rows that turn a pure function into a walk ===== -/
abbrev es_St : Type := (Nat → Int32) × (Nat → Nat → Int32)
def es_F (S : es_St) (g : Nat) (v : Int32) : es_St := (fun j => if j = g then v else S.1 j, S.2)
def es_R (S : es_St) (k : Nat) (f : Nat → Int32) : es_St := (S.1, fun j => if j = k then f else S.2 j)
def es_rd (S : es_St) (k : Nat) (i : Int32) : Int32 := S.2 k i.toNatClampNeg
def es_wr (S : es_St) (k : Nat) (i x : Int32) : es_St := es_R S k (upd (S.2 k) i.toNatClampNeg x)
noncomputable def es_ck {α : Type} (b : Prop) (k : Option α) : Option α := @ite _ b (Classical.propDecidable b) k none
def es_lt {α β : Type} (e : α) (k : α → β) : β := k e
def es_bd {α : Type} (x : Option (Int32 × es_St)) (k : Int32 → es_St → Option α) : Option α := match x with
  | none => none
  | some q => k q.1 q.2
def es_B (v : Int32) : Prop := narrow .boolean (.int v) = .int v ∧ fits .boolean (.int v) = true
theorem es_ck_e {α : Type} {b : Prop} {k : Option α} {r : α} (h : es_ck b k = some r) : b ∧ k = some r := by
  unfold es_ck at h
  by_cases hb : b
  · rw [if_pos hb] at h; exact ⟨hb, h⟩
  · rw [if_neg hb] at h; cases h
theorem es_ck_t {α : Type} {b : Prop} {k : Option α} (h : b) : es_ck b k = k := by
  unfold es_ck; rw [if_pos h]
theorem es_bd_e {α : Type} {x : Option (Int32 × es_St)} {k : Int32 → es_St → Option α} {r : α} (h : es_bd x k = some r) : ∃ (v : Int32) (S : es_St), x = some (v, S) ∧ k v S = some r := by
  cases x with
  | none => cases h
  | some q => exact ⟨q.1, q.2, rfl, h⟩
theorem es_bd_s {α : Type} {v : Int32} {S : es_St} {k : Int32 → es_St → Option α} : es_bd (some (v, S)) k = k v S := rfl
theorem es_if_t {c : Prop} [Decidable c] {α : Type} {x y z : α} (hc : c) (h : (if c then x else y) = z) : x = z := by rw [if_pos hc] at h; exact h
theorem es_if_f {c : Prop} [Decidable c] {α : Type} {x y z : α} (hc : ¬ c) (h : (if c then x else y) = z) : y = z := by rw [if_neg hc] at h; exact h
theorem es_lt_e {α β : Type} {e x : α} {k : α → β} {r : β} (hx : x = e) (h : es_lt e k = r) : k x = r := by subst hx; exact h
def es_AA (a : Nat → Nat) (n sz : Nat) : Nat → Prop := fun q => (∃ k, k < n ∧ q = a k) ∨ sz ≤ q
def es_ok (w : es_St → va_W) (n : Nat) (a : Nat → Nat) : Prop := (∀ S k, k < n → ∃ e, (w S)[k]? = some (a k, e)) ∧ ∀ S k, n ≤ k → (w S)[k]? = none
def es_inj (a : Nat → Nat) (n : Nat) : Prop := ∀ i j, i < n → j < n → a i = a j → i = j
theorem es_D {w : es_St → va_W} {n : Nat} {a : Nat → Nat} {A : Nat → Prop} (ho : es_ok w n a) (hi : es_inj a n) (hA : ∀ k, k < n → A (a k)) (S : es_St) : va_D A (w S) := by
  have key : ∀ (k : Nat) (q : Nat × va_E), (w S)[k]? = some q → k < n ∧ q.1 = a k := by
    intro k q hq
    by_cases hk : k < n
    · obtain ⟨e, he⟩ := ho.1 S k hk
      rw [he] at hq
      cases hq
      exact ⟨hk, rfl⟩
    · rw [ho.2 S k (Nat.le_of_not_lt hk)] at hq
      cases hq
  refine ⟨fun i j p q hp hq e => ?_, fun k q hq => ?_⟩
  · obtain ⟨h1, h2⟩ := key i p hp
    obtain ⟨h3, h4⟩ := key j q hq
    exact hi i j h1 h3 (by rw [← h2, ← h4, e])
  · obtain ⟨h1, h2⟩ := key k q hq
    rw [h2]
    exact hA k h1
theorem es_NW_same {u U : State} (h : u.vm = U.vm) (q : es_NW u) : es_NW U := ⟨va_Nw.same rfl h q.1, va_Nw.same rfl h q.2⟩
theorem es_NW_warm {s U : State} (h : s.WarmedH U.vm) (q : es_NW s) : es_NW U := ⟨va_Nw.warmM h q.1, va_Nw.warmM h q.2⟩
theorem es_good : ∀ w ∈ wsL_law, ((w.onTables && w.keeps) = true ∨ ∃ ty, w = .arrayClass ty) := fun w hw => good_of_word (List.all_eq_true.mp (by decide +kernel : wsL_law.all goodWord = true) w hw)
def es_CX (p : Program) (s : State) (m : MethodId) (args : Array Value) (c : Code) (cc : ByteArray) (own : String) (nL : Nat) (D : va_G) (tys : List (ClassId × FieldType)) (w : es_St → va_W) (a : Nat → Nat) (n : Nat) (A : Nat → Prop) : Prop :=
  p.tables.exec = Jvm.exec ∧ c.code = cc ∧ c.maxLocals = nL ∧ s.vm.findClass own = some m.cls ∧ (∀ x ∈ wsL_law, x.before args s = true) ∧ va_K D vwCl tys s ∧ es_ok w n a ∧ es_inj a n ∧ (∀ k, k < n → A (a k)) ∧ (∀ q, s.heap.size ≤ q → A q) ∧ es_NW s
def es_cx (D : va_G) (tys : List (ClassId × FieldType)) (w : es_St → va_W) (a : Nat → Nat) (n : Nat) (S : es_St) (U : State) : Prop := va_P D vwCl (w S) U.heap ∧ va_K D vwCl tys U ∧ es_inj a n ∧ es_NW U
abbrev es_Pre (av : List Value) (D : va_G) (tys : List (ClassId × FieldType)) (w : es_St → va_W) (a : Nat → Nat) (n : Nat) (S : es_St) (sz : Nat) : Array Value → State → Prop := va_Pc av (fun U => U.heap.size = sz ∧ es_cx D tys w a n S U)
abbrev es_Qi (D : va_G) (w : es_St → va_W) (a : Nat → Nat) (n : Nat) (r : Int32) (S : es_St) (sz : Nat) : Array Value → State → Outcome → State → Prop := va_Qi (fun r2 (_ : Unit) => r2 = r) (fun _ t => va_P D vwCl (w S) t.heap) (es_AA a n sz)
abbrev es_Qv (D : va_G) (w : es_St → va_W) (a : Nat → Nat) (n : Nat) (S : es_St) (sz : Nat) : Array Value → State → Outcome → State → Prop := va_Qv (fun (_ : Unit) => True) (fun _ t => va_P D vwCl (w S) t.heap) (es_AA a n sz)
theorem es_blind {av : List Value} {D : va_G} {tys : List (ClassId × FieldType)} {w : es_St → va_W} {a : Nat → Nat} {n : Nat} {S : es_St} {sz : Nat} : FrameBlind (es_Pre av D tys w a n S sz) := fun a U g mk q => by
  obtain ⟨q0, q1, qP, qK, qi, qN⟩ := q
  exact ⟨q0, q1, qP, va_K.moved (u := U) (U := U.calling g mk a) (Vm.Alike.refl U.vm) qK, qi, es_NW_same rfl qN⟩
theorem es_intro {l : Launch} {y : MethodName} {cc : ByteArray} {maxL : Nat} {ret : Option FieldType} {rm : Room} {D : va_G} {tys : List (ClassId × FieldType)} {w : es_St → va_W} {a : Nat → Nat} {n : Nat} {S : es_St} {sz : Nat} {av : List Value} {Qc : Nat → Array Value → State → Outcome → State → Prop}
    (hy : plainName y.cls = true) (ho : es_ok w n a) (hlen : (lg_sl av).length ≤ maxL)
    (body : ∀ (p : Program) (e : Env) (s : State) (m : MethodId) (below : List Frame) (meth : Method) (c : Code), es_CX p s m av.toArray c cc y.cls maxL D tys w a n (es_AA a n s.heap.size) → meth.sig.returnType = ret → meth.locks = false → va_P D vwCl (w S) s.heap → ∀ ls : Array Slot, lv_has ls maxL (lv_args 0 av) → W p l e rm s m av.toArray below meth c s.heap [] 0 0 (MQ below (Qc s.heap.size) av.toArray s 0 0 (es_AA a n s.heap.size)) (F0 m 0 ls [])) :
    Met l y (Cond.code y cc maxL ret :: wsL_law) rm (es_Pre av D tys w a n S sz) (Qc sz) 0 0 (es_AA a n sz) := by
  refine Met.ofW (cc := cc) (maxL := maxL) (ret := ret) hy rfl ?_
  intro p e s m args below meth c s₁ B hml hv
  obtain ⟨rfl, hsz, hP, hK, hi, hN⟩ := hv
  subst hsz
  have hts := atoms_spec (ws := Cond.code y cc maxL ret :: wsL_law) B.pre
  have hown := findClass_of_methodNamed B.named
  have hl := lv_entry av (n := maxL) hlen
  rw [lg_entry_eq]
  exact body p e s m below meth c ⟨B.exec, B.bytes, hml, hown, fun x h => hts x (List.mem_cons_of_mem _ h), hK, ho, hi, fun k hk => Or.inl ⟨k, hk, rfl⟩, fun q h => Or.inr h, hN⟩ B.returns B.notSynchronized hP _ hl
def es_mV (y : MethodName) (bytes : ByteArray) (maxL : Nat) (ret : Option FieldType) (n : Nat) : Prop := Cond.instanceMethod y ∈ wsL_law ∧ Cond.selects y.cls y y ∈ wsL_law ∧ Cond.initialized y.cls ∈ wsL_law ∧ Cond.code y bytes maxL ret ∈ wsL_law ∧ y.cls ≠ "java/lang/invoke/MethodHandle" ∧ y.cls ≠ "java/lang/invoke/VarHandle" ∧ (parseMethodDescriptor y.desc).map (fun d => d.parameters.length) = some n
def es_mS (y : MethodName) (bytes : ByteArray) (maxL : Nat) (ret : Option FieldType) (n : Nat) : Prop := Cond.static y ∈ wsL_law ∧ Cond.initialized y.cls ∈ wsL_law ∧ Cond.code y bytes maxL ret ∈ wsL_law ∧ y.cls ≠ "java/lang/invoke/MethodHandle" ∧ y.cls ≠ "java/lang/invoke/VarHandle" ∧ (parseMethodDescriptor y.desc).map (fun d => d.parameters.length) = some n
section ESR
variable {p : Program} {l : Launch} {e : Env} {R : Room} {s : State} {m : MethodId} {args : Array Value} {below : List Frame} {meth : Method} {c : Code} {H : Heap} {locs : List Loc} {cells slots : Nat} {Q : State → Prop}
variable {cc : ByteArray} {own : String} {nL : Nat} {D : va_G} {tys : List (ClassId × FieldType)} {w : es_St → va_W} {a : Nat → Nat} {n : Nat} {A : Nat → Prop} {S S1 : es_St} {pc : Nat} {ls : Array Slot} {rest st0 : List Value}
theorem es_free (C : es_CX p s m args c cc own nL D tys w a n A) (hS : va_S A s.heap H locs) : ∀ q, es_AA a n H.size q → A q := by
  obtain ⟨-, -, -, -, -, -, -, -, hAk, hA, -⟩ := C
  intro q h
  rcases h with ⟨k, hk, rfl⟩ | h
  · exact hAk k hk
  · exact hA q (Nat.le_trans hS.1 h)
theorem es_iret (C : es_CX p s m args c cc own nL D tys w a n A) (hr : meth.sig.returnType = some .int) (hlk : meth.locks = false) {v r : Int32} (h : some (v, S) = some (r, S1)) (hP : va_P D vwCl (w S) H) (hS : va_S (es_AA a n s.heap.size) s.heap H locs) (hdg : decode cc pc = .ok (.ireturn, 1)) : W p l e R s m args below meth c H locs 0 0 (MQ below (es_Qi D w a n r S1 s.heap.size) args s 0 0 (es_AA a n s.heap.size)) (F0 m pc ls [.int v]) := by
  cases h
  exact W.iret (v := v) C.1 C.2.1 hr (fun t ht hW => ⟨⟨v, (), rfl, rfl, by show va_P D vwCl (w S) t.heap; rw [ht]; exact hP⟩, hS.F ht⟩) hS.2.2 hdg hlk
theorem es_zret (C : es_CX p s m args c cc own nL D tys w a n A) (hr : meth.sig.returnType = some .boolean) (hlk : meth.locks = false) {v r : Int32} (hB : es_B v) (h : some (v, S) = some (r, S1)) (hP : va_P D vwCl (w S) H) (hS : va_S (es_AA a n s.heap.size) s.heap H locs) (hdg : decode cc pc = .ok (.ireturn, 1)) : W p l e R s m args below meth c H locs 0 0 (MQ below (es_Qi D w a n r S1 s.heap.size) args s 0 0 (es_AA a n s.heap.size)) (F0 m pc ls [.int v]) := by
  cases h
  exact W.zret (v := v) C.1 C.2.1 hr hB.1 (fun t ht hW => ⟨⟨v, (), rfl, rfl, by show va_P D vwCl (w S) t.heap; rw [ht]; exact hP⟩, hS.F ht⟩) hS.2.2 hdg hlk
theorem es_vret (C : es_CX p s m args c cc own nL D tys w a n A) (hr : meth.sig.returnType = none) (hlk : meth.locks = false) {v r : Int32} (h : some (v, S) = some (r, S1)) (hP : va_P D vwCl (w S) H) (hS : va_S (es_AA a n s.heap.size) s.heap H locs) (hdg : decode cc pc = .ok (.return_, 1)) : W p l e R s m args below meth c H locs 0 0 (MQ below (es_Qv D w a n S1 s.heap.size) args s 0 0 (es_AA a n s.heap.size)) (F0 m pc ls []) := by
  cases h
  exact W.vret C.1 C.2.1 hr (fun t ht hW => ⟨⟨(), rfl, trivial, by show va_P D vwCl (w S) t.heap; rw [ht]; exact hP⟩, hS.F ht⟩) hS.2.2 hdg hlk
theorem es_get (C : es_CX p s m args c cc own nL D tys w a n A) (hP : va_P D vwCl (w S) H) {k ci idx j N : Nat} {fs : List Value} {Cn : String} {T : u_T} {v : Value} (he : (w S)[k]? = some (a k, .inr (ci, fs))) (hc : vwCl[ci]? = some (Cn, T, N)) (hin : ∀ x ∈ u_ws Cn T N, x ∈ wsL_law) (hj : j < N) (hl : Cond.fieldLink own idx (T j).1 (T j).2.1 (T j).2.2.1 ∈ wsL_law) (hv : fs[j]? = some v) (hdg : decode cc pc = .ok (.getfield idx, 3))
    (kk : W p l e R s m args below meth c H locs cells slots Q (F0 m (pc + 3) ls (v :: rest))) : W p l e R s m args below meth c H locs cells slots Q (F0 m pc ls (.ref (a k) :: rest)) := by
  obtain ⟨hx, hb, hml, hown, hts, hK, -⟩ := C
  exact va_get (D := D) hx hb hts hin hown hK hP k he hc j hj (hts _ hl) (fun _ h9 => h9) hv hdg kk
theorem es_put (C : es_CX p s m args c cc own nL D tys w a n A) (hP : va_P D vwCl (w S) H) (hS : va_S A s.heap H locs) {k ci idx j N : Nat} {fs : List Value} {Cn : String} {T : u_T} {v : Int32} {ty : FieldType} (he : (w S)[k]? = some (a k, .inr (ci, fs))) (hc : vwCl[ci]? = some (Cn, T, N)) (hin : ∀ x ∈ u_ws Cn T N, x ∈ wsL_law) {ty0 : Nat → FieldType} (hty : ∀ k, k < N → parseFieldDescriptor (T k).2.2.1 = some (ty0 k)) (hnm : ∀ a, a < N → ∀ b, b < N → a ≠ b → (T a).2.1 ≠ (T b).2.1) (hj : j < N) (hl : Cond.fieldLink own idx (T j).1 (T j).2.1 (T j).2.2.1 ∈ wsL_law) (hfin : (T j).2.2.2 = false) (hd : parseFieldDescriptor (T j).2.2.1 = some ty) (hn : narrow ty (.int v) = .int v) (hfit : fits ty (.int v) = true) (hlen : j < fs.length) (hset : (w S).set k (a k, .inr (ci, fs.set j (.int v))) = w S1) (hdg : decode cc pc = .ok (.putfield idx, 3))
    (kk : ∀ (S2 : es_St), S2 = S1 → ∀ (H1 : Heap) (locs1 : List Loc), va_P D vwCl (w S2) H1 → va_S A s.heap H1 locs1 → W p l e R s m args below meth c H1 locs1 cells slots Q (F0 m (pc + 3) ls rest)) : W p l e R s m args below meth c H locs cells slots Q (F0 m pc ls (.int v :: .ref (a k) :: rest)) := by
  obtain ⟨hx, hb, hml, hown, hts, hK, ho, hi, hAk, hA, -⟩ := C
  exact va_put (D := D) hx hb hts hin ty0 hty hnm hown hK hP (es_D ho hi hAk S) hS k he hc j hj (hts _ hl) (fun _ h9 => h9) hfin hd hn hfit hlen hdg (fun H1 locs1 h1 _ h3 => kk S1 rfl H1 locs1 (hset ▸ h1) h3)
theorem es_ald (C : es_CX p s m args c cc own nL D tys w a n A) (hP : va_P D vwCl (w S) H) {k t0 len : Nat} {cA : ClassId} (he : (w S)[k]? = some (a k, .inl (cA, len, .inl (S.2 k)))) (ht : tys[t0]? = some (cA, .int)) {i : Int32} (hin : vp_in i len) (hdg : decode cc pc = .ok (.iaload, 1))
    (kk : W p l e R s m args below meth c H locs cells slots Q (F0 m (pc + 1) ls (.int (es_rd S k i) :: rest))) : W p l e R s m args below meth c H locs cells slots Q (F0 m pc ls (.int i :: .ref (a k) :: rest)) := by
  obtain ⟨hx, hb, hml, hown, hts, hK, -⟩ := C
  exact va_iald (D := D) hx hb hK hP k t0 he ht hin hdg kk
theorem es_zald (C : es_CX p s m args c cc own nL D tys w a n A) (hP : va_P D vwCl (w S) H) {k t0 len : Nat} {cA : ClassId} (he : (w S)[k]? = some (a k, .inl (cA, len, .inl (S.2 k)))) (ht : tys[t0]? = some (cA, .boolean)) {i : Int32} (hin : vp_in i len) (hdg : decode cc pc = .ok (.baload, 1))
    (kk : W p l e R s m args below meth c H locs cells slots Q (F0 m (pc + 1) ls (.int (es_rd S k i) :: rest))) : W p l e R s m args below meth c H locs cells slots Q (F0 m pc ls (.int i :: .ref (a k) :: rest)) := by
  obtain ⟨hx, hb, hml, hown, hts, hK, -⟩ := C
  exact va_zald (D := D) hx hb hK hP k t0 he ht hin hdg kk
theorem es_ast (C : es_CX p s m args c cc own nL D tys w a n A) (hP : va_P D vwCl (w S) H) (hS : va_S A s.heap H locs) {k t0 len : Nat} {cA : ClassId} (he : (w S)[k]? = some (a k, .inl (cA, len, .inl (S.2 k)))) (hset : ∀ f : Nat → Int32, (w S).set k (a k, .inl (cA, len, .inl f)) = w (es_R S k f)) (ht : tys[t0]? = some (cA, .int)) {i x : Int32} (hin : vp_in i len) (hdg : decode cc pc = .ok (.iastore, 1))
    (kk : ∀ (S2 : es_St), S2 = es_wr S k i x → ∀ (H1 : Heap) (locs1 : List Loc), va_P D vwCl (w S2) H1 → va_S A s.heap H1 locs1 → W p l e R s m args below meth c H1 locs1 cells slots Q (F0 m (pc + 1) ls rest)) : W p l e R s m args below meth c H locs cells slots Q (F0 m pc ls (.int x :: .int i :: .ref (a k) :: rest)) := by
  obtain ⟨hx, hb, hml, hown, hts, hK, ho, hi, hAk, hA, -⟩ := C
  exact va_iast (D := D) hx hb hK hP (es_D ho hi hAk S) hS k t0 he ht hin hdg (fun H1 locs1 h1 _ h3 => kk _ rfl H1 locs1 (hset _ ▸ h1) h3)
theorem es_zast (C : es_CX p s m args c cc own nL D tys w a n A) (hP : va_P D vwCl (w S) H) (hS : va_S A s.heap H locs) {k t0 len : Nat} {cA : ClassId} (he : (w S)[k]? = some (a k, .inl (cA, len, .inl (S.2 k)))) (hset : ∀ f : Nat → Int32, (w S).set k (a k, .inl (cA, len, .inl f)) = w (es_R S k f)) (ht : tys[t0]? = some (cA, .boolean)) {i x : Int32} (hin : vp_in i len) (hdg : decode cc pc = .ok (.bastore, 1))
    (kk : ∀ (S2 : es_St), S2 = es_wr S k i (vp_nar .boolean x) → ∀ (H1 : Heap) (locs1 : List Loc), va_P D vwCl (w S2) H1 → va_S A s.heap H1 locs1 → W p l e R s m args below meth c H1 locs1 cells slots Q (F0 m (pc + 1) ls rest)) : W p l e R s m args below meth c H locs cells slots Q (F0 m pc ls (.int x :: .int i :: .ref (a k) :: rest)) := by
  obtain ⟨hx, hb, hml, hown, hts, hK, ho, hi, hAk, hA, -⟩ := C
  exact va_zast (D := D) hx hb hK hP (es_D ho hi hAk S) hS k t0 he ht hin hdg (fun H1 locs1 h1 _ h3 => kk _ rfl H1 locs1 (hset _ ▸ h1) h3)
theorem es_len (C : es_CX p s m args c cc own nL D tys w a n A) (hP : va_P D vwCl (w S) H) {k t0 len : Nat} {cA : ClassId} {ty : FieldType} (he : (w S)[k]? = some (a k, .inl (cA, len, .inl (S.2 k)))) (ht : tys[t0]? = some (cA, ty)) (hdg : decode cc pc = .ok (.arraylength, 1))
    (kk : W p l e R s m args below meth c H locs cells slots Q (F0 m (pc + 1) ls (.int (nI len) :: rest))) : W p l e R s m args below meth c H locs cells slots Q (F0 m pc ls (.ref (a k) :: rest)) := by
  obtain ⟨hx, hb, hml, hown, hts, hK, -⟩ := C
  exact va_alen (D := D) hx hb hK hP k t0 he ht rfl hdg kk
variable {y : MethodName} {bytes : ByteArray} {maxL na idx : Nat} {ret : Option FieldType} {rm : Room} {As : List Value} {kb ci N : Nat} {fs : List Value} {T : u_T} {r : Int32}
theorem es_runV (C : es_CX p s m args c cc own nL D tys w a n A) {Qc : Array Value → State → Outcome → State → Prop} (hM : Met l y (Cond.code y bytes maxL ret :: wsL_law) rm (es_Pre (.ref (a kb) :: As) D tys w a n S H.size) Qc 0 0 (es_AA a n H.size)) (hlink : Cond.methodLink own idx y ∈ wsL_law) (hm : es_mV y bytes maxL ret na) (hR : rm.cells = 0 ∧ rm.slots = 0 ∧ rm.frames + 1 ≤ R.frames ∧ 8 + (maxL + 11) + rm.locals ≤ R.locals) (hroom : cells ≤ R.cells ∧ slots ≤ R.slots) (hP : va_P D vwCl (w S) H) (he : (w S)[kb]? = some (a kb, .inr (ci, fs))) (hc : vwCl[ci]? = some (y.cls, T, N)) (hn : As.length = na) (hsz : ls.size = nL) (hst : st0 = As.reverse ++ .ref (a kb) :: rest) (hcat : (rest.map fun v => v.category).sum ≤ 8) (hdg : decode cc pc = .ok (.invokevirtual idx, 3)) :
    va_Run p l e R s m args below meth c H locs cells slots 0 0 (F0 m pc ls st0) rest (Qc (Value.ref (a kb) :: As).toArray) (es_AA a n H.size) := by
  obtain ⟨hx, hb, hml, hown, hts, hK, ho, hi, hAk, hA, hN⟩ := C
  obtain ⟨m1, m2, m3, m4, m5⟩ := hm
  have hw : ∀ w0 ∈ (Cond.code y bytes maxL ret :: wsL_law), w0 ∈ wsL_law := fun w0 h0 => by
    rcases List.mem_cons.mp h0 with rfl | h1
    · exact m4
    · exact h1
  refine va_runV (ws := Cond.code y bytes maxL ret :: wsL_law) (Ts := wsL_law) (C := y.cls) (bytes := bytes) (maxL := maxL) (ret := ret) (As := As) (rest := rest) ⟨hx, hb, hml, hown, hts⟩ hM (cwV na hts (ws := Cond.code y bytes maxL ret :: wsL_law) (fun w0 h0 => ?_) rfl hR.1 hR.2.1 ⟨rfl, m5⟩ ⟨hR.2.2.1, hR.2.2.2⟩) ⟨es_blind, va_recv hK hP hc he, fun U hU hW => ⟨rfl, by rw [hU], by rw [hU]; exact hP, va_K.moved hW.alike hK, hi, es_NW_warm hW hN⟩⟩ rfl hn hsz hst (lv_room hcat) hdg ⟨hroom.1, hroom.2⟩
  have hin : w0 ∈ wsL_law := by
    rcases List.mem_append.mp h0 with h1 | h1
    · simp only [List.mem_cons, List.not_mem_nil, or_false] at h1
      rcases h1 with rfl | rfl | rfl | rfl
      · exact hlink
      · exact m1
      · exact m2
      · exact m3
    · exact hw w0 h1
  exact ⟨hin, es_good w0 hin⟩
theorem es_callVi (C : es_CX p s m args c cc own nL D tys w a n A) (hM : Met l y (Cond.code y bytes maxL ret :: wsL_law) rm (es_Pre (.ref (a kb) :: As) D tys w a n S H.size) (es_Qi D w a n r S1 H.size) 0 0 (es_AA a n H.size)) (hlink : Cond.methodLink own idx y ∈ wsL_law) (hm : es_mV y bytes maxL ret na) (hR : rm.cells = 0 ∧ rm.slots = 0 ∧ rm.frames + 1 ≤ R.frames ∧ 8 + (maxL + 11) + rm.locals ≤ R.locals) (hroom : cells ≤ R.cells ∧ slots ≤ R.slots) (hP : va_P D vwCl (w S) H) (hS : va_S A s.heap H locs) (he : (w S)[kb]? = some (a kb, .inr (ci, fs))) (hc : vwCl[ci]? = some (y.cls, T, N)) (hn : As.length = na) (hsz : ls.size = nL) (hst : st0 = As.reverse ++ .ref (a kb) :: rest) (hcat : (rest.map fun v => v.category).sum ≤ 8) (hdg : decode cc pc = .ok (.invokevirtual idx, 3))
    (kk : ∀ (H1 : Heap) (locs1 : List Loc), H.size ≤ H1.size → (∀ q : Nat, q < H.size → ¬ es_AA a n H.size q → H1[q]? = H[q]?) → va_P D vwCl (w S1) H1 → va_S A s.heap H1 locs1 → W p l e R s m args below meth c H1 locs1 cells slots Q (F0 m (pc + 3) ls (.int r :: rest))) : W p l e R s m args below meth c H locs cells slots Q (F0 m pc ls st0) := by
  have hF := es_free C hS
  refine va_calli (es_runV C hM hlink hm hR hroom hP he hc hn hsz hst hcat hdg) hS (fun q _ h => hF q h) hF (fun r2 u t H1 locs1 ht hvm hw hB hz hk hS1 => ?_)
  rw [ht] at hB
  subst hw
  exact kk H1 locs1 hz hk hB hS1
theorem es_callVv (C : es_CX p s m args c cc own nL D tys w a n A) (hM : Met l y (Cond.code y bytes maxL ret :: wsL_law) rm (es_Pre (.ref (a kb) :: As) D tys w a n S H.size) (es_Qv D w a n S1 H.size) 0 0 (es_AA a n H.size)) (hlink : Cond.methodLink own idx y ∈ wsL_law) (hm : es_mV y bytes maxL ret na) (hR : rm.cells = 0 ∧ rm.slots = 0 ∧ rm.frames + 1 ≤ R.frames ∧ 8 + (maxL + 11) + rm.locals ≤ R.locals) (hroom : cells ≤ R.cells ∧ slots ≤ R.slots) (hP : va_P D vwCl (w S) H) (hS : va_S A s.heap H locs) (he : (w S)[kb]? = some (a kb, .inr (ci, fs))) (hc : vwCl[ci]? = some (y.cls, T, N)) (hn : As.length = na) (hsz : ls.size = nL) (hst : st0 = As.reverse ++ .ref (a kb) :: rest) (hcat : (rest.map fun v => v.category).sum ≤ 8) (hdg : decode cc pc = .ok (.invokevirtual idx, 3))
    (kk : ∀ (H1 : Heap) (locs1 : List Loc), H.size ≤ H1.size → (∀ q : Nat, q < H.size → ¬ es_AA a n H.size q → H1[q]? = H[q]?) → va_P D vwCl (w S1) H1 → va_S A s.heap H1 locs1 → W p l e R s m args below meth c H1 locs1 cells slots Q (F0 m (pc + 3) ls rest)) : W p l e R s m args below meth c H locs cells slots Q (F0 m pc ls st0) := by
  have hF := es_free C hS
  refine va_callv (es_runV C hM hlink hm hR hroom hP he hc hn hsz hst hcat hdg) hS (fun q _ h => hF q h) hF (fun u t H1 locs1 ht hvm hw hB hz hk hS1 => ?_)
  rw [ht] at hB
  exact kk H1 locs1 hz hk hB hS1
theorem es_callSi (C : es_CX p s m args c cc own nL D tys w a n A) (hM : Met l y (Cond.code y bytes maxL ret :: wsL_law) rm (es_Pre As D tys w a n S H.size) (es_Qi D w a n r S1 H.size) 0 0 (es_AA a n H.size)) (hlink : Cond.methodLink own idx y ∈ wsL_law) (hm : es_mS y bytes maxL ret na) (hR : rm.cells = 0 ∧ rm.slots = 0 ∧ rm.frames + 1 ≤ R.frames ∧ 8 + (maxL + 11) + rm.locals ≤ R.locals) (hroom : cells ≤ R.cells ∧ slots ≤ R.slots) (hP : va_P D vwCl (w S) H) (hS : va_S A s.heap H locs) (hn : As.length = na) (hsz : ls.size = nL) (hst : st0 = As.reverse ++ rest) (hcat : (rest.map fun v => v.category).sum ≤ 8) (hdg : decode cc pc = .ok (.invokestatic idx, 3))
    (kk : ∀ (H1 : Heap) (locs1 : List Loc), H.size ≤ H1.size → (∀ q : Nat, q < H.size → ¬ es_AA a n H.size q → H1[q]? = H[q]?) → va_P D vwCl (w S1) H1 → va_S A s.heap H1 locs1 → W p l e R s m args below meth c H1 locs1 cells slots Q (F0 m (pc + 3) ls (.int r :: rest))) : W p l e R s m args below meth c H locs cells slots Q (F0 m pc ls st0) := by
  have hF := es_free C hS
  obtain ⟨hx, hb, hml, hown, hts, hK, ho, hi, hAk, hA, hN⟩ := C
  obtain ⟨m1, m3, m4, m5⟩ := hm
  refine va_calli (va_runS (ws := Cond.code y bytes maxL ret :: wsL_law) (Ts := wsL_law) (bytes := bytes) (maxL := maxL) (ret := ret) (As := As) (rest := rest) ⟨hx, hb, hml, hown, hts⟩ hM (va_cwS na hts (ws := Cond.code y bytes maxL ret :: wsL_law) (fun w0 h0 => ?_) rfl hR.1 hR.2.1 m5 ⟨hR.2.2.1, hR.2.2.2⟩) ⟨es_blind, fun U hU hW => ⟨rfl, by rw [hU], by rw [hU]; exact hP, va_K.moved hW.alike hK, hi, es_NW_warm hW hN⟩⟩ rfl hn hsz hst (lv_room hcat) hdg ⟨hroom.1, hroom.2⟩) hS (fun q _ h => hF q h) hF (fun r2 u t H1 locs1 ht hvm hw hB hz hk hS1 => ?_)
  · have hin : w0 ∈ wsL_law := by
      rcases List.mem_append.mp h0 with h1 | h1
      · simp only [List.mem_cons, List.not_mem_nil, or_false] at h1
        rcases h1 with rfl | rfl | rfl
        · exact hlink
        · exact m1
        · exact m3
      · rcases List.mem_cons.mp h1 with rfl | h1
        · exact m4
        · exact h1
    exact ⟨hin, es_good w0 hin⟩
  · rw [ht] at hB
    subst hw
    exact kk H1 locs1 hz hk hB hS1
theorem es_callNi (C : es_CX p s m args c cc own nL D tys w a n A) {host : String} (hM : Met l y (Cond.code y bytes maxL ret :: wsL_law) rm (es_Pre As D tys w a n S H.size) (es_Qi D w a n r S1 H.size) 0 0 (es_AA a n H.size)) (hlink : va_Nw (.methodLinkNest own idx y host) s) (hm : es_mS y bytes maxL ret na) (hR : rm.cells = 0 ∧ rm.slots = 0 ∧ rm.frames + 1 ≤ R.frames ∧ 8 + (maxL + 11) + rm.locals ≤ R.locals) (hroom : cells ≤ R.cells ∧ slots ≤ R.slots) (hP : va_P D vwCl (w S) H) (hS : va_S A s.heap H locs) (hn : As.length = na) (hsz : ls.size = nL) (hst : st0 = As.reverse ++ rest) (hcat : (rest.map fun v => v.category).sum ≤ 8) (hdg : decode cc pc = .ok (.invokestatic idx, 3))
    (kk : ∀ (H1 : Heap) (locs1 : List Loc), H.size ≤ H1.size → (∀ q : Nat, q < H.size → ¬ es_AA a n H.size q → H1[q]? = H[q]?) → va_P D vwCl (w S1) H1 → va_S A s.heap H1 locs1 → W p l e R s m args below meth c H1 locs1 cells slots Q (F0 m (pc + 3) ls (.int r :: rest))) : W p l e R s m args below meth c H locs cells slots Q (F0 m pc ls st0) := by
  have hF := es_free C hS
  obtain ⟨hx, hb, hml, hown, hts, hK, ho, hi, hAk, hA, hN⟩ := C
  obtain ⟨m1, m3, m4, m5⟩ := hm
  refine va_calli (va_runSN (ws := Cond.code y bytes maxL ret :: wsL_law) (Ts := wsL_law) (host := host) (bytes := bytes) (maxL := maxL) (ret := ret) (As := As) (rest := rest) ⟨hx, hb, hml, hown, hts⟩ hM ⟨va_cnB na hts (ws := Cond.code y bytes maxL ret :: wsL_law) (fun w0 h0 => ?_) rfl hR.1 hR.2.1 hlink (hts _ m3) m5 ⟨hR.2.2.1, hR.2.2.2⟩, hts _ m1, trivial⟩ ⟨es_blind, fun U hU hW => ⟨rfl, by rw [hU], by rw [hU]; exact hP, va_K.moved hW.alike hK, hi, es_NW_warm hW hN⟩⟩ rfl hn hsz hst (lv_room hcat) hdg ⟨hroom.1, hroom.2⟩) hS (fun q _ h => hF q h) hF (fun r2 u t H1 locs1 ht hvm hw hB hz hk hS1 => ?_)
  · have hin : w0 ∈ wsL_law := by
      rcases List.mem_cons.mp h0 with rfl | h1
      · exact m4
      · exact h1
    exact ⟨hin, es_good w0 hin⟩
  · rw [ht] at hB
    subst hw
    exact kk H1 locs1 hz hk hB hS1
end ESR
-- fields of X: 0 Disk.pages, 1 Disk.records, 2 Disk.freeCount, 3 Output.head, 4 Output.count, 5 Output.lastKey, 6 Output.lastTag, 7 Output.once, 8 Output.filled, 9 Output.tail, 10 Sorter.resultHead, 11 Sorter.resultCount, 12 Sorter.runs, 13 Sorter.budget, 14 Sorter.mode, 15 Sorter.once, 16 Joiner.split, 17 Joiner.end, 18 Joiner.groupA, 19 Joiner.endA, 20 Joiner.groupB, 21 Joiner.endB, 22 pending.reads, 23 pending.writes, 24 pending.runs, 25 pending.passes, 26 pending.peak, 27 latest.reads, 28 latest.writes, 29 latest.runs, 30 latest.passes, 31 latest.peak, 32 Tree.leaves, 33 Tree.mode
-- rows of X: 9 ES.fileHead, 10 ES.fileCount, 11 Disk.keys, 12 Disk.tags, 13 Disk.owner, 14 Disk.follower, 15 Disk.free, 16 Output.keys, 17 Output.tags, 18 Sorter.runHead, 19 Sorter.runCount, 20 Joiner.keys, 21 Joiner.tags, 22 pending.lengths, 23 latest.lengths, 24 Inputs.keys, 25 Inputs.tags, 26 Inputs.nextPage, 27 Inputs.unread, 28 Inputs.at, 29 Inputs.filled, 30 Tree.rounds, 31 Tree.keys, 32 Tree.tags, 33 Tree.came, 34 Tree.losers
def es_wX (a : Nat → Nat) (cI cZ : ClassId) (N : Nat → Nat) (S : es_St) : va_W := [(a 0, .inr (7, [.ref (a 1), .ref (a 2), .ref (a 3), .ref (a 4), .ref (a 5), .ref (a 6), .ref (a 9), .ref (a 10)])), (a 1, .inr (0, [.int (S.1 0), .int (S.1 1), .ref (a 5), .ref (a 11), .ref (a 12), .ref (a 13), .ref (a 14), .ref (a 15), .int (S.1 2)])), (a 2, .inr (4, [.int (S.1 3), .int (S.1 4), .int (S.1 5), .int (S.1 6), .ref (a 1), .ref (a 16), .ref (a 17), .int (S.1 7), .int (S.1 8), .int (S.1 9)])), (a 3, .inr (5, [.int (S.1 10), .int (S.1 11), .ref (a 1), .ref (a 2), .ref (a 7), .ref (a 8), .ref (a 18), .ref (a 19), .int (S.1 12), .int (S.1 13), .int (S.1 14), .int (S.1 15)])), (a 4, .inr (2, [.ref (a 1), .ref (a 2), .ref (a 20), .ref (a 21), .int (S.1 16), .int (S.1 17), .int (S.1 18), .int (S.1 19), .int (S.1 20), .int (S.1 21)])), (a 5, .inr (6, [.int (S.1 22), .int (S.1 23), .int (S.1 24), .int (S.1 25), .int (S.1 26), .ref (a 22)])), (a 6, .inr (6, [.int (S.1 27), .int (S.1 28), .int (S.1 29), .int (S.1 30), .int (S.1 31), .ref (a 23)])), (a 7, .inr (1, [.ref (a 1), .ref (a 24), .ref (a 25), .ref (a 26), .ref (a 27), .ref (a 28), .ref (a 29)])), (a 8, .inr (3, [.ref (a 30), .ref (a 31), .ref (a 32), .ref (a 33), .ref (a 34), .int (S.1 32), .int (S.1 33)])), (a 9, .inl (cI, N 9, .inl (S.2 9))), (a 10, .inl (cI, N 10, .inl (S.2 10))), (a 11, .inl (cI, N 11, .inl (S.2 11))), (a 12, .inl (cI, N 12, .inl (S.2 12))), (a 13, .inl (cI, N 13, .inl (S.2 13))), (a 14, .inl (cI, N 14, .inl (S.2 14))), (a 15, .inl (cI, N 15, .inl (S.2 15))), (a 16, .inl (cI, N 16, .inl (S.2 16))), (a 17, .inl (cI, N 17, .inl (S.2 17))), (a 18, .inl (cI, N 18, .inl (S.2 18))), (a 19, .inl (cI, N 19, .inl (S.2 19))), (a 20, .inl (cI, N 20, .inl (S.2 20))), (a 21, .inl (cI, N 21, .inl (S.2 21))), (a 22, .inl (cI, N 22, .inl (S.2 22))), (a 23, .inl (cI, N 23, .inl (S.2 23))), (a 24, .inl (cI, N 24, .inl (S.2 24))), (a 25, .inl (cI, N 25, .inl (S.2 25))), (a 26, .inl (cI, N 26, .inl (S.2 26))), (a 27, .inl (cI, N 27, .inl (S.2 27))), (a 28, .inl (cI, N 28, .inl (S.2 28))), (a 29, .inl (cI, N 29, .inl (S.2 29))), (a 30, .inl (cI, N 30, .inl (S.2 30))), (a 31, .inl (cI, N 31, .inl (S.2 31))), (a 32, .inl (cI, N 32, .inl (S.2 32))), (a 33, .inl (cI, N 33, .inl (S.2 33))), (a 34, .inl (cI, N 34, .inl (S.2 34)))]
theorem es_wX_0 (a : Nat → Nat) (cI cZ : ClassId) (N : Nat → Nat) (S : es_St) : (es_wX a cI cZ N S)[0]? = some (a 0, .inr (7, [.ref (a 1), .ref (a 2), .ref (a 3), .ref (a 4), .ref (a 5), .ref (a 6), .ref (a 9), .ref (a 10)])) := rfl
theorem es_wX_1 (a : Nat → Nat) (cI cZ : ClassId) (N : Nat → Nat) (S : es_St) : (es_wX a cI cZ N S)[1]? = some (a 1, .inr (0, [.int (S.1 0), .int (S.1 1), .ref (a 5), .ref (a 11), .ref (a 12), .ref (a 13), .ref (a 14), .ref (a 15), .int (S.1 2)])) := rfl
theorem es_wX_2 (a : Nat → Nat) (cI cZ : ClassId) (N : Nat → Nat) (S : es_St) : (es_wX a cI cZ N S)[2]? = some (a 2, .inr (4, [.int (S.1 3), .int (S.1 4), .int (S.1 5), .int (S.1 6), .ref (a 1), .ref (a 16), .ref (a 17), .int (S.1 7), .int (S.1 8), .int (S.1 9)])) := rfl
theorem es_wX_3 (a : Nat → Nat) (cI cZ : ClassId) (N : Nat → Nat) (S : es_St) : (es_wX a cI cZ N S)[3]? = some (a 3, .inr (5, [.int (S.1 10), .int (S.1 11), .ref (a 1), .ref (a 2), .ref (a 7), .ref (a 8), .ref (a 18), .ref (a 19), .int (S.1 12), .int (S.1 13), .int (S.1 14), .int (S.1 15)])) := rfl
theorem es_wX_4 (a : Nat → Nat) (cI cZ : ClassId) (N : Nat → Nat) (S : es_St) : (es_wX a cI cZ N S)[4]? = some (a 4, .inr (2, [.ref (a 1), .ref (a 2), .ref (a 20), .ref (a 21), .int (S.1 16), .int (S.1 17), .int (S.1 18), .int (S.1 19), .int (S.1 20), .int (S.1 21)])) := rfl
theorem es_wX_5 (a : Nat → Nat) (cI cZ : ClassId) (N : Nat → Nat) (S : es_St) : (es_wX a cI cZ N S)[5]? = some (a 5, .inr (6, [.int (S.1 22), .int (S.1 23), .int (S.1 24), .int (S.1 25), .int (S.1 26), .ref (a 22)])) := rfl
theorem es_wX_6 (a : Nat → Nat) (cI cZ : ClassId) (N : Nat → Nat) (S : es_St) : (es_wX a cI cZ N S)[6]? = some (a 6, .inr (6, [.int (S.1 27), .int (S.1 28), .int (S.1 29), .int (S.1 30), .int (S.1 31), .ref (a 23)])) := rfl
theorem es_wX_7 (a : Nat → Nat) (cI cZ : ClassId) (N : Nat → Nat) (S : es_St) : (es_wX a cI cZ N S)[7]? = some (a 7, .inr (1, [.ref (a 1), .ref (a 24), .ref (a 25), .ref (a 26), .ref (a 27), .ref (a 28), .ref (a 29)])) := rfl
theorem es_wX_8 (a : Nat → Nat) (cI cZ : ClassId) (N : Nat → Nat) (S : es_St) : (es_wX a cI cZ N S)[8]? = some (a 8, .inr (3, [.ref (a 30), .ref (a 31), .ref (a 32), .ref (a 33), .ref (a 34), .int (S.1 32), .int (S.1 33)])) := rfl
theorem es_wX_9 (a : Nat → Nat) (cI cZ : ClassId) (N : Nat → Nat) (S : es_St) : (es_wX a cI cZ N S)[9]? = some (a 9, .inl (cI, N 9, .inl (S.2 9))) := rfl
theorem es_wX_10 (a : Nat → Nat) (cI cZ : ClassId) (N : Nat → Nat) (S : es_St) : (es_wX a cI cZ N S)[10]? = some (a 10, .inl (cI, N 10, .inl (S.2 10))) := rfl
theorem es_wX_11 (a : Nat → Nat) (cI cZ : ClassId) (N : Nat → Nat) (S : es_St) : (es_wX a cI cZ N S)[11]? = some (a 11, .inl (cI, N 11, .inl (S.2 11))) := rfl
theorem es_wX_12 (a : Nat → Nat) (cI cZ : ClassId) (N : Nat → Nat) (S : es_St) : (es_wX a cI cZ N S)[12]? = some (a 12, .inl (cI, N 12, .inl (S.2 12))) := rfl
theorem es_wX_13 (a : Nat → Nat) (cI cZ : ClassId) (N : Nat → Nat) (S : es_St) : (es_wX a cI cZ N S)[13]? = some (a 13, .inl (cI, N 13, .inl (S.2 13))) := rfl
theorem es_wX_14 (a : Nat → Nat) (cI cZ : ClassId) (N : Nat → Nat) (S : es_St) : (es_wX a cI cZ N S)[14]? = some (a 14, .inl (cI, N 14, .inl (S.2 14))) := rfl
theorem es_wX_15 (a : Nat → Nat) (cI cZ : ClassId) (N : Nat → Nat) (S : es_St) : (es_wX a cI cZ N S)[15]? = some (a 15, .inl (cI, N 15, .inl (S.2 15))) := rfl
theorem es_wX_16 (a : Nat → Nat) (cI cZ : ClassId) (N : Nat → Nat) (S : es_St) : (es_wX a cI cZ N S)[16]? = some (a 16, .inl (cI, N 16, .inl (S.2 16))) := rfl
theorem es_wX_17 (a : Nat → Nat) (cI cZ : ClassId) (N : Nat → Nat) (S : es_St) : (es_wX a cI cZ N S)[17]? = some (a 17, .inl (cI, N 17, .inl (S.2 17))) := rfl
theorem es_wX_18 (a : Nat → Nat) (cI cZ : ClassId) (N : Nat → Nat) (S : es_St) : (es_wX a cI cZ N S)[18]? = some (a 18, .inl (cI, N 18, .inl (S.2 18))) := rfl
theorem es_wX_19 (a : Nat → Nat) (cI cZ : ClassId) (N : Nat → Nat) (S : es_St) : (es_wX a cI cZ N S)[19]? = some (a 19, .inl (cI, N 19, .inl (S.2 19))) := rfl
theorem es_wX_20 (a : Nat → Nat) (cI cZ : ClassId) (N : Nat → Nat) (S : es_St) : (es_wX a cI cZ N S)[20]? = some (a 20, .inl (cI, N 20, .inl (S.2 20))) := rfl
theorem es_wX_21 (a : Nat → Nat) (cI cZ : ClassId) (N : Nat → Nat) (S : es_St) : (es_wX a cI cZ N S)[21]? = some (a 21, .inl (cI, N 21, .inl (S.2 21))) := rfl
theorem es_wX_22 (a : Nat → Nat) (cI cZ : ClassId) (N : Nat → Nat) (S : es_St) : (es_wX a cI cZ N S)[22]? = some (a 22, .inl (cI, N 22, .inl (S.2 22))) := rfl
theorem es_wX_23 (a : Nat → Nat) (cI cZ : ClassId) (N : Nat → Nat) (S : es_St) : (es_wX a cI cZ N S)[23]? = some (a 23, .inl (cI, N 23, .inl (S.2 23))) := rfl
theorem es_wX_24 (a : Nat → Nat) (cI cZ : ClassId) (N : Nat → Nat) (S : es_St) : (es_wX a cI cZ N S)[24]? = some (a 24, .inl (cI, N 24, .inl (S.2 24))) := rfl
theorem es_wX_25 (a : Nat → Nat) (cI cZ : ClassId) (N : Nat → Nat) (S : es_St) : (es_wX a cI cZ N S)[25]? = some (a 25, .inl (cI, N 25, .inl (S.2 25))) := rfl
theorem es_wX_26 (a : Nat → Nat) (cI cZ : ClassId) (N : Nat → Nat) (S : es_St) : (es_wX a cI cZ N S)[26]? = some (a 26, .inl (cI, N 26, .inl (S.2 26))) := rfl
theorem es_wX_27 (a : Nat → Nat) (cI cZ : ClassId) (N : Nat → Nat) (S : es_St) : (es_wX a cI cZ N S)[27]? = some (a 27, .inl (cI, N 27, .inl (S.2 27))) := rfl
theorem es_wX_28 (a : Nat → Nat) (cI cZ : ClassId) (N : Nat → Nat) (S : es_St) : (es_wX a cI cZ N S)[28]? = some (a 28, .inl (cI, N 28, .inl (S.2 28))) := rfl
theorem es_wX_29 (a : Nat → Nat) (cI cZ : ClassId) (N : Nat → Nat) (S : es_St) : (es_wX a cI cZ N S)[29]? = some (a 29, .inl (cI, N 29, .inl (S.2 29))) := rfl
theorem es_wX_30 (a : Nat → Nat) (cI cZ : ClassId) (N : Nat → Nat) (S : es_St) : (es_wX a cI cZ N S)[30]? = some (a 30, .inl (cI, N 30, .inl (S.2 30))) := rfl
theorem es_wX_31 (a : Nat → Nat) (cI cZ : ClassId) (N : Nat → Nat) (S : es_St) : (es_wX a cI cZ N S)[31]? = some (a 31, .inl (cI, N 31, .inl (S.2 31))) := rfl
theorem es_wX_32 (a : Nat → Nat) (cI cZ : ClassId) (N : Nat → Nat) (S : es_St) : (es_wX a cI cZ N S)[32]? = some (a 32, .inl (cI, N 32, .inl (S.2 32))) := rfl
theorem es_wX_33 (a : Nat → Nat) (cI cZ : ClassId) (N : Nat → Nat) (S : es_St) : (es_wX a cI cZ N S)[33]? = some (a 33, .inl (cI, N 33, .inl (S.2 33))) := rfl
theorem es_wX_34 (a : Nat → Nat) (cI cZ : ClassId) (N : Nat → Nat) (S : es_St) : (es_wX a cI cZ N S)[34]? = some (a 34, .inl (cI, N 34, .inl (S.2 34))) := rfl
theorem es_sX_0 (a : Nat → Nat) (cI cZ : ClassId) (N : Nat → Nat) (S : es_St) (v : Int32) : (es_wX a cI cZ N S).set 1 (a 1, .inr (0, ([.int (S.1 0), .int (S.1 1), .ref (a 5), .ref (a 11), .ref (a 12), .ref (a 13), .ref (a 14), .ref (a 15), .int (S.1 2)] : List Value).set 0 (.int v))) = es_wX a cI cZ N (es_F S 0 v) := rfl
theorem es_sX_1 (a : Nat → Nat) (cI cZ : ClassId) (N : Nat → Nat) (S : es_St) (v : Int32) : (es_wX a cI cZ N S).set 1 (a 1, .inr (0, ([.int (S.1 0), .int (S.1 1), .ref (a 5), .ref (a 11), .ref (a 12), .ref (a 13), .ref (a 14), .ref (a 15), .int (S.1 2)] : List Value).set 1 (.int v))) = es_wX a cI cZ N (es_F S 1 v) := rfl
theorem es_sX_2 (a : Nat → Nat) (cI cZ : ClassId) (N : Nat → Nat) (S : es_St) (v : Int32) : (es_wX a cI cZ N S).set 1 (a 1, .inr (0, ([.int (S.1 0), .int (S.1 1), .ref (a 5), .ref (a 11), .ref (a 12), .ref (a 13), .ref (a 14), .ref (a 15), .int (S.1 2)] : List Value).set 8 (.int v))) = es_wX a cI cZ N (es_F S 2 v) := rfl
theorem es_sX_3 (a : Nat → Nat) (cI cZ : ClassId) (N : Nat → Nat) (S : es_St) (v : Int32) : (es_wX a cI cZ N S).set 2 (a 2, .inr (4, ([.int (S.1 3), .int (S.1 4), .int (S.1 5), .int (S.1 6), .ref (a 1), .ref (a 16), .ref (a 17), .int (S.1 7), .int (S.1 8), .int (S.1 9)] : List Value).set 0 (.int v))) = es_wX a cI cZ N (es_F S 3 v) := rfl
theorem es_sX_4 (a : Nat → Nat) (cI cZ : ClassId) (N : Nat → Nat) (S : es_St) (v : Int32) : (es_wX a cI cZ N S).set 2 (a 2, .inr (4, ([.int (S.1 3), .int (S.1 4), .int (S.1 5), .int (S.1 6), .ref (a 1), .ref (a 16), .ref (a 17), .int (S.1 7), .int (S.1 8), .int (S.1 9)] : List Value).set 1 (.int v))) = es_wX a cI cZ N (es_F S 4 v) := rfl
theorem es_sX_5 (a : Nat → Nat) (cI cZ : ClassId) (N : Nat → Nat) (S : es_St) (v : Int32) : (es_wX a cI cZ N S).set 2 (a 2, .inr (4, ([.int (S.1 3), .int (S.1 4), .int (S.1 5), .int (S.1 6), .ref (a 1), .ref (a 16), .ref (a 17), .int (S.1 7), .int (S.1 8), .int (S.1 9)] : List Value).set 2 (.int v))) = es_wX a cI cZ N (es_F S 5 v) := rfl
theorem es_sX_6 (a : Nat → Nat) (cI cZ : ClassId) (N : Nat → Nat) (S : es_St) (v : Int32) : (es_wX a cI cZ N S).set 2 (a 2, .inr (4, ([.int (S.1 3), .int (S.1 4), .int (S.1 5), .int (S.1 6), .ref (a 1), .ref (a 16), .ref (a 17), .int (S.1 7), .int (S.1 8), .int (S.1 9)] : List Value).set 3 (.int v))) = es_wX a cI cZ N (es_F S 6 v) := rfl
theorem es_sX_7 (a : Nat → Nat) (cI cZ : ClassId) (N : Nat → Nat) (S : es_St) (v : Int32) : (es_wX a cI cZ N S).set 2 (a 2, .inr (4, ([.int (S.1 3), .int (S.1 4), .int (S.1 5), .int (S.1 6), .ref (a 1), .ref (a 16), .ref (a 17), .int (S.1 7), .int (S.1 8), .int (S.1 9)] : List Value).set 7 (.int v))) = es_wX a cI cZ N (es_F S 7 v) := rfl
theorem es_sX_8 (a : Nat → Nat) (cI cZ : ClassId) (N : Nat → Nat) (S : es_St) (v : Int32) : (es_wX a cI cZ N S).set 2 (a 2, .inr (4, ([.int (S.1 3), .int (S.1 4), .int (S.1 5), .int (S.1 6), .ref (a 1), .ref (a 16), .ref (a 17), .int (S.1 7), .int (S.1 8), .int (S.1 9)] : List Value).set 8 (.int v))) = es_wX a cI cZ N (es_F S 8 v) := rfl
theorem es_sX_9 (a : Nat → Nat) (cI cZ : ClassId) (N : Nat → Nat) (S : es_St) (v : Int32) : (es_wX a cI cZ N S).set 2 (a 2, .inr (4, ([.int (S.1 3), .int (S.1 4), .int (S.1 5), .int (S.1 6), .ref (a 1), .ref (a 16), .ref (a 17), .int (S.1 7), .int (S.1 8), .int (S.1 9)] : List Value).set 9 (.int v))) = es_wX a cI cZ N (es_F S 9 v) := rfl
theorem es_sX_10 (a : Nat → Nat) (cI cZ : ClassId) (N : Nat → Nat) (S : es_St) (v : Int32) : (es_wX a cI cZ N S).set 3 (a 3, .inr (5, ([.int (S.1 10), .int (S.1 11), .ref (a 1), .ref (a 2), .ref (a 7), .ref (a 8), .ref (a 18), .ref (a 19), .int (S.1 12), .int (S.1 13), .int (S.1 14), .int (S.1 15)] : List Value).set 0 (.int v))) = es_wX a cI cZ N (es_F S 10 v) := rfl
theorem es_sX_11 (a : Nat → Nat) (cI cZ : ClassId) (N : Nat → Nat) (S : es_St) (v : Int32) : (es_wX a cI cZ N S).set 3 (a 3, .inr (5, ([.int (S.1 10), .int (S.1 11), .ref (a 1), .ref (a 2), .ref (a 7), .ref (a 8), .ref (a 18), .ref (a 19), .int (S.1 12), .int (S.1 13), .int (S.1 14), .int (S.1 15)] : List Value).set 1 (.int v))) = es_wX a cI cZ N (es_F S 11 v) := rfl
theorem es_sX_12 (a : Nat → Nat) (cI cZ : ClassId) (N : Nat → Nat) (S : es_St) (v : Int32) : (es_wX a cI cZ N S).set 3 (a 3, .inr (5, ([.int (S.1 10), .int (S.1 11), .ref (a 1), .ref (a 2), .ref (a 7), .ref (a 8), .ref (a 18), .ref (a 19), .int (S.1 12), .int (S.1 13), .int (S.1 14), .int (S.1 15)] : List Value).set 8 (.int v))) = es_wX a cI cZ N (es_F S 12 v) := rfl
theorem es_sX_13 (a : Nat → Nat) (cI cZ : ClassId) (N : Nat → Nat) (S : es_St) (v : Int32) : (es_wX a cI cZ N S).set 3 (a 3, .inr (5, ([.int (S.1 10), .int (S.1 11), .ref (a 1), .ref (a 2), .ref (a 7), .ref (a 8), .ref (a 18), .ref (a 19), .int (S.1 12), .int (S.1 13), .int (S.1 14), .int (S.1 15)] : List Value).set 9 (.int v))) = es_wX a cI cZ N (es_F S 13 v) := rfl
theorem es_sX_14 (a : Nat → Nat) (cI cZ : ClassId) (N : Nat → Nat) (S : es_St) (v : Int32) : (es_wX a cI cZ N S).set 3 (a 3, .inr (5, ([.int (S.1 10), .int (S.1 11), .ref (a 1), .ref (a 2), .ref (a 7), .ref (a 8), .ref (a 18), .ref (a 19), .int (S.1 12), .int (S.1 13), .int (S.1 14), .int (S.1 15)] : List Value).set 10 (.int v))) = es_wX a cI cZ N (es_F S 14 v) := rfl
theorem es_sX_15 (a : Nat → Nat) (cI cZ : ClassId) (N : Nat → Nat) (S : es_St) (v : Int32) : (es_wX a cI cZ N S).set 3 (a 3, .inr (5, ([.int (S.1 10), .int (S.1 11), .ref (a 1), .ref (a 2), .ref (a 7), .ref (a 8), .ref (a 18), .ref (a 19), .int (S.1 12), .int (S.1 13), .int (S.1 14), .int (S.1 15)] : List Value).set 11 (.int v))) = es_wX a cI cZ N (es_F S 15 v) := rfl
theorem es_sX_16 (a : Nat → Nat) (cI cZ : ClassId) (N : Nat → Nat) (S : es_St) (v : Int32) : (es_wX a cI cZ N S).set 4 (a 4, .inr (2, ([.ref (a 1), .ref (a 2), .ref (a 20), .ref (a 21), .int (S.1 16), .int (S.1 17), .int (S.1 18), .int (S.1 19), .int (S.1 20), .int (S.1 21)] : List Value).set 4 (.int v))) = es_wX a cI cZ N (es_F S 16 v) := rfl
theorem es_sX_17 (a : Nat → Nat) (cI cZ : ClassId) (N : Nat → Nat) (S : es_St) (v : Int32) : (es_wX a cI cZ N S).set 4 (a 4, .inr (2, ([.ref (a 1), .ref (a 2), .ref (a 20), .ref (a 21), .int (S.1 16), .int (S.1 17), .int (S.1 18), .int (S.1 19), .int (S.1 20), .int (S.1 21)] : List Value).set 5 (.int v))) = es_wX a cI cZ N (es_F S 17 v) := rfl
theorem es_sX_18 (a : Nat → Nat) (cI cZ : ClassId) (N : Nat → Nat) (S : es_St) (v : Int32) : (es_wX a cI cZ N S).set 4 (a 4, .inr (2, ([.ref (a 1), .ref (a 2), .ref (a 20), .ref (a 21), .int (S.1 16), .int (S.1 17), .int (S.1 18), .int (S.1 19), .int (S.1 20), .int (S.1 21)] : List Value).set 6 (.int v))) = es_wX a cI cZ N (es_F S 18 v) := rfl
theorem es_sX_19 (a : Nat → Nat) (cI cZ : ClassId) (N : Nat → Nat) (S : es_St) (v : Int32) : (es_wX a cI cZ N S).set 4 (a 4, .inr (2, ([.ref (a 1), .ref (a 2), .ref (a 20), .ref (a 21), .int (S.1 16), .int (S.1 17), .int (S.1 18), .int (S.1 19), .int (S.1 20), .int (S.1 21)] : List Value).set 7 (.int v))) = es_wX a cI cZ N (es_F S 19 v) := rfl
theorem es_sX_20 (a : Nat → Nat) (cI cZ : ClassId) (N : Nat → Nat) (S : es_St) (v : Int32) : (es_wX a cI cZ N S).set 4 (a 4, .inr (2, ([.ref (a 1), .ref (a 2), .ref (a 20), .ref (a 21), .int (S.1 16), .int (S.1 17), .int (S.1 18), .int (S.1 19), .int (S.1 20), .int (S.1 21)] : List Value).set 8 (.int v))) = es_wX a cI cZ N (es_F S 20 v) := rfl
theorem es_sX_21 (a : Nat → Nat) (cI cZ : ClassId) (N : Nat → Nat) (S : es_St) (v : Int32) : (es_wX a cI cZ N S).set 4 (a 4, .inr (2, ([.ref (a 1), .ref (a 2), .ref (a 20), .ref (a 21), .int (S.1 16), .int (S.1 17), .int (S.1 18), .int (S.1 19), .int (S.1 20), .int (S.1 21)] : List Value).set 9 (.int v))) = es_wX a cI cZ N (es_F S 21 v) := rfl
theorem es_sX_22 (a : Nat → Nat) (cI cZ : ClassId) (N : Nat → Nat) (S : es_St) (v : Int32) : (es_wX a cI cZ N S).set 5 (a 5, .inr (6, ([.int (S.1 22), .int (S.1 23), .int (S.1 24), .int (S.1 25), .int (S.1 26), .ref (a 22)] : List Value).set 0 (.int v))) = es_wX a cI cZ N (es_F S 22 v) := rfl
theorem es_sX_23 (a : Nat → Nat) (cI cZ : ClassId) (N : Nat → Nat) (S : es_St) (v : Int32) : (es_wX a cI cZ N S).set 5 (a 5, .inr (6, ([.int (S.1 22), .int (S.1 23), .int (S.1 24), .int (S.1 25), .int (S.1 26), .ref (a 22)] : List Value).set 1 (.int v))) = es_wX a cI cZ N (es_F S 23 v) := rfl
theorem es_sX_24 (a : Nat → Nat) (cI cZ : ClassId) (N : Nat → Nat) (S : es_St) (v : Int32) : (es_wX a cI cZ N S).set 5 (a 5, .inr (6, ([.int (S.1 22), .int (S.1 23), .int (S.1 24), .int (S.1 25), .int (S.1 26), .ref (a 22)] : List Value).set 2 (.int v))) = es_wX a cI cZ N (es_F S 24 v) := rfl
theorem es_sX_25 (a : Nat → Nat) (cI cZ : ClassId) (N : Nat → Nat) (S : es_St) (v : Int32) : (es_wX a cI cZ N S).set 5 (a 5, .inr (6, ([.int (S.1 22), .int (S.1 23), .int (S.1 24), .int (S.1 25), .int (S.1 26), .ref (a 22)] : List Value).set 3 (.int v))) = es_wX a cI cZ N (es_F S 25 v) := rfl
theorem es_sX_26 (a : Nat → Nat) (cI cZ : ClassId) (N : Nat → Nat) (S : es_St) (v : Int32) : (es_wX a cI cZ N S).set 5 (a 5, .inr (6, ([.int (S.1 22), .int (S.1 23), .int (S.1 24), .int (S.1 25), .int (S.1 26), .ref (a 22)] : List Value).set 4 (.int v))) = es_wX a cI cZ N (es_F S 26 v) := rfl
theorem es_sX_27 (a : Nat → Nat) (cI cZ : ClassId) (N : Nat → Nat) (S : es_St) (v : Int32) : (es_wX a cI cZ N S).set 6 (a 6, .inr (6, ([.int (S.1 27), .int (S.1 28), .int (S.1 29), .int (S.1 30), .int (S.1 31), .ref (a 23)] : List Value).set 0 (.int v))) = es_wX a cI cZ N (es_F S 27 v) := rfl
theorem es_sX_28 (a : Nat → Nat) (cI cZ : ClassId) (N : Nat → Nat) (S : es_St) (v : Int32) : (es_wX a cI cZ N S).set 6 (a 6, .inr (6, ([.int (S.1 27), .int (S.1 28), .int (S.1 29), .int (S.1 30), .int (S.1 31), .ref (a 23)] : List Value).set 1 (.int v))) = es_wX a cI cZ N (es_F S 28 v) := rfl
theorem es_sX_29 (a : Nat → Nat) (cI cZ : ClassId) (N : Nat → Nat) (S : es_St) (v : Int32) : (es_wX a cI cZ N S).set 6 (a 6, .inr (6, ([.int (S.1 27), .int (S.1 28), .int (S.1 29), .int (S.1 30), .int (S.1 31), .ref (a 23)] : List Value).set 2 (.int v))) = es_wX a cI cZ N (es_F S 29 v) := rfl
theorem es_sX_30 (a : Nat → Nat) (cI cZ : ClassId) (N : Nat → Nat) (S : es_St) (v : Int32) : (es_wX a cI cZ N S).set 6 (a 6, .inr (6, ([.int (S.1 27), .int (S.1 28), .int (S.1 29), .int (S.1 30), .int (S.1 31), .ref (a 23)] : List Value).set 3 (.int v))) = es_wX a cI cZ N (es_F S 30 v) := rfl
theorem es_sX_31 (a : Nat → Nat) (cI cZ : ClassId) (N : Nat → Nat) (S : es_St) (v : Int32) : (es_wX a cI cZ N S).set 6 (a 6, .inr (6, ([.int (S.1 27), .int (S.1 28), .int (S.1 29), .int (S.1 30), .int (S.1 31), .ref (a 23)] : List Value).set 4 (.int v))) = es_wX a cI cZ N (es_F S 31 v) := rfl
theorem es_sX_32 (a : Nat → Nat) (cI cZ : ClassId) (N : Nat → Nat) (S : es_St) (v : Int32) : (es_wX a cI cZ N S).set 8 (a 8, .inr (3, ([.ref (a 30), .ref (a 31), .ref (a 32), .ref (a 33), .ref (a 34), .int (S.1 32), .int (S.1 33)] : List Value).set 5 (.int v))) = es_wX a cI cZ N (es_F S 32 v) := rfl
theorem es_sX_33 (a : Nat → Nat) (cI cZ : ClassId) (N : Nat → Nat) (S : es_St) (v : Int32) : (es_wX a cI cZ N S).set 8 (a 8, .inr (3, ([.ref (a 30), .ref (a 31), .ref (a 32), .ref (a 33), .ref (a 34), .int (S.1 32), .int (S.1 33)] : List Value).set 6 (.int v))) = es_wX a cI cZ N (es_F S 33 v) := rfl
theorem es_rX_9 (a : Nat → Nat) (cI cZ : ClassId) (N : Nat → Nat) (S : es_St) (f : Nat → Int32) : (es_wX a cI cZ N S).set 9 (a 9, .inl (cI, N 9, .inl f)) = es_wX a cI cZ N (es_R S 9 f) := rfl
theorem es_rX_10 (a : Nat → Nat) (cI cZ : ClassId) (N : Nat → Nat) (S : es_St) (f : Nat → Int32) : (es_wX a cI cZ N S).set 10 (a 10, .inl (cI, N 10, .inl f)) = es_wX a cI cZ N (es_R S 10 f) := rfl
theorem es_rX_11 (a : Nat → Nat) (cI cZ : ClassId) (N : Nat → Nat) (S : es_St) (f : Nat → Int32) : (es_wX a cI cZ N S).set 11 (a 11, .inl (cI, N 11, .inl f)) = es_wX a cI cZ N (es_R S 11 f) := rfl
theorem es_rX_12 (a : Nat → Nat) (cI cZ : ClassId) (N : Nat → Nat) (S : es_St) (f : Nat → Int32) : (es_wX a cI cZ N S).set 12 (a 12, .inl (cI, N 12, .inl f)) = es_wX a cI cZ N (es_R S 12 f) := rfl
theorem es_rX_13 (a : Nat → Nat) (cI cZ : ClassId) (N : Nat → Nat) (S : es_St) (f : Nat → Int32) : (es_wX a cI cZ N S).set 13 (a 13, .inl (cI, N 13, .inl f)) = es_wX a cI cZ N (es_R S 13 f) := rfl
theorem es_rX_14 (a : Nat → Nat) (cI cZ : ClassId) (N : Nat → Nat) (S : es_St) (f : Nat → Int32) : (es_wX a cI cZ N S).set 14 (a 14, .inl (cI, N 14, .inl f)) = es_wX a cI cZ N (es_R S 14 f) := rfl
theorem es_rX_15 (a : Nat → Nat) (cI cZ : ClassId) (N : Nat → Nat) (S : es_St) (f : Nat → Int32) : (es_wX a cI cZ N S).set 15 (a 15, .inl (cI, N 15, .inl f)) = es_wX a cI cZ N (es_R S 15 f) := rfl
theorem es_rX_16 (a : Nat → Nat) (cI cZ : ClassId) (N : Nat → Nat) (S : es_St) (f : Nat → Int32) : (es_wX a cI cZ N S).set 16 (a 16, .inl (cI, N 16, .inl f)) = es_wX a cI cZ N (es_R S 16 f) := rfl
theorem es_rX_17 (a : Nat → Nat) (cI cZ : ClassId) (N : Nat → Nat) (S : es_St) (f : Nat → Int32) : (es_wX a cI cZ N S).set 17 (a 17, .inl (cI, N 17, .inl f)) = es_wX a cI cZ N (es_R S 17 f) := rfl
theorem es_rX_18 (a : Nat → Nat) (cI cZ : ClassId) (N : Nat → Nat) (S : es_St) (f : Nat → Int32) : (es_wX a cI cZ N S).set 18 (a 18, .inl (cI, N 18, .inl f)) = es_wX a cI cZ N (es_R S 18 f) := rfl
theorem es_rX_19 (a : Nat → Nat) (cI cZ : ClassId) (N : Nat → Nat) (S : es_St) (f : Nat → Int32) : (es_wX a cI cZ N S).set 19 (a 19, .inl (cI, N 19, .inl f)) = es_wX a cI cZ N (es_R S 19 f) := rfl
theorem es_rX_20 (a : Nat → Nat) (cI cZ : ClassId) (N : Nat → Nat) (S : es_St) (f : Nat → Int32) : (es_wX a cI cZ N S).set 20 (a 20, .inl (cI, N 20, .inl f)) = es_wX a cI cZ N (es_R S 20 f) := rfl
theorem es_rX_21 (a : Nat → Nat) (cI cZ : ClassId) (N : Nat → Nat) (S : es_St) (f : Nat → Int32) : (es_wX a cI cZ N S).set 21 (a 21, .inl (cI, N 21, .inl f)) = es_wX a cI cZ N (es_R S 21 f) := rfl
theorem es_rX_22 (a : Nat → Nat) (cI cZ : ClassId) (N : Nat → Nat) (S : es_St) (f : Nat → Int32) : (es_wX a cI cZ N S).set 22 (a 22, .inl (cI, N 22, .inl f)) = es_wX a cI cZ N (es_R S 22 f) := rfl
theorem es_rX_23 (a : Nat → Nat) (cI cZ : ClassId) (N : Nat → Nat) (S : es_St) (f : Nat → Int32) : (es_wX a cI cZ N S).set 23 (a 23, .inl (cI, N 23, .inl f)) = es_wX a cI cZ N (es_R S 23 f) := rfl
theorem es_rX_24 (a : Nat → Nat) (cI cZ : ClassId) (N : Nat → Nat) (S : es_St) (f : Nat → Int32) : (es_wX a cI cZ N S).set 24 (a 24, .inl (cI, N 24, .inl f)) = es_wX a cI cZ N (es_R S 24 f) := rfl
theorem es_rX_25 (a : Nat → Nat) (cI cZ : ClassId) (N : Nat → Nat) (S : es_St) (f : Nat → Int32) : (es_wX a cI cZ N S).set 25 (a 25, .inl (cI, N 25, .inl f)) = es_wX a cI cZ N (es_R S 25 f) := rfl
theorem es_rX_26 (a : Nat → Nat) (cI cZ : ClassId) (N : Nat → Nat) (S : es_St) (f : Nat → Int32) : (es_wX a cI cZ N S).set 26 (a 26, .inl (cI, N 26, .inl f)) = es_wX a cI cZ N (es_R S 26 f) := rfl
theorem es_rX_27 (a : Nat → Nat) (cI cZ : ClassId) (N : Nat → Nat) (S : es_St) (f : Nat → Int32) : (es_wX a cI cZ N S).set 27 (a 27, .inl (cI, N 27, .inl f)) = es_wX a cI cZ N (es_R S 27 f) := rfl
theorem es_rX_28 (a : Nat → Nat) (cI cZ : ClassId) (N : Nat → Nat) (S : es_St) (f : Nat → Int32) : (es_wX a cI cZ N S).set 28 (a 28, .inl (cI, N 28, .inl f)) = es_wX a cI cZ N (es_R S 28 f) := rfl
theorem es_rX_29 (a : Nat → Nat) (cI cZ : ClassId) (N : Nat → Nat) (S : es_St) (f : Nat → Int32) : (es_wX a cI cZ N S).set 29 (a 29, .inl (cI, N 29, .inl f)) = es_wX a cI cZ N (es_R S 29 f) := rfl
theorem es_rX_30 (a : Nat → Nat) (cI cZ : ClassId) (N : Nat → Nat) (S : es_St) (f : Nat → Int32) : (es_wX a cI cZ N S).set 30 (a 30, .inl (cI, N 30, .inl f)) = es_wX a cI cZ N (es_R S 30 f) := rfl
theorem es_rX_31 (a : Nat → Nat) (cI cZ : ClassId) (N : Nat → Nat) (S : es_St) (f : Nat → Int32) : (es_wX a cI cZ N S).set 31 (a 31, .inl (cI, N 31, .inl f)) = es_wX a cI cZ N (es_R S 31 f) := rfl
theorem es_rX_32 (a : Nat → Nat) (cI cZ : ClassId) (N : Nat → Nat) (S : es_St) (f : Nat → Int32) : (es_wX a cI cZ N S).set 32 (a 32, .inl (cI, N 32, .inl f)) = es_wX a cI cZ N (es_R S 32 f) := rfl
theorem es_rX_33 (a : Nat → Nat) (cI cZ : ClassId) (N : Nat → Nat) (S : es_St) (f : Nat → Int32) : (es_wX a cI cZ N S).set 33 (a 33, .inl (cI, N 33, .inl f)) = es_wX a cI cZ N (es_R S 33 f) := rfl
theorem es_rX_34 (a : Nat → Nat) (cI cZ : ClassId) (N : Nat → Nat) (S : es_St) (f : Nat → Int32) : (es_wX a cI cZ N S).set 34 (a 34, .inl (cI, N 34, .inl f)) = es_wX a cI cZ N (es_R S 34 f) := rfl
theorem es_okX (a : Nat → Nat) (cI cZ : ClassId) (N : Nat → Nat) : es_ok (es_wX a cI cZ N) 35 a := by
  refine ⟨fun S k hk => ?_, fun S k hk => ?_⟩
  · match k, hk with
    | 0, _ => exact ⟨_, rfl⟩
    | 1, _ => exact ⟨_, rfl⟩
    | 2, _ => exact ⟨_, rfl⟩
    | 3, _ => exact ⟨_, rfl⟩
    | 4, _ => exact ⟨_, rfl⟩
    | 5, _ => exact ⟨_, rfl⟩
    | 6, _ => exact ⟨_, rfl⟩
    | 7, _ => exact ⟨_, rfl⟩
    | 8, _ => exact ⟨_, rfl⟩
    | 9, _ => exact ⟨_, rfl⟩
    | 10, _ => exact ⟨_, rfl⟩
    | 11, _ => exact ⟨_, rfl⟩
    | 12, _ => exact ⟨_, rfl⟩
    | 13, _ => exact ⟨_, rfl⟩
    | 14, _ => exact ⟨_, rfl⟩
    | 15, _ => exact ⟨_, rfl⟩
    | 16, _ => exact ⟨_, rfl⟩
    | 17, _ => exact ⟨_, rfl⟩
    | 18, _ => exact ⟨_, rfl⟩
    | 19, _ => exact ⟨_, rfl⟩
    | 20, _ => exact ⟨_, rfl⟩
    | 21, _ => exact ⟨_, rfl⟩
    | 22, _ => exact ⟨_, rfl⟩
    | 23, _ => exact ⟨_, rfl⟩
    | 24, _ => exact ⟨_, rfl⟩
    | 25, _ => exact ⟨_, rfl⟩
    | 26, _ => exact ⟨_, rfl⟩
    | 27, _ => exact ⟨_, rfl⟩
    | 28, _ => exact ⟨_, rfl⟩
    | 29, _ => exact ⟨_, rfl⟩
    | 30, _ => exact ⟨_, rfl⟩
    | 31, _ => exact ⟨_, rfl⟩
    | 32, _ => exact ⟨_, rfl⟩
    | 33, _ => exact ⟨_, rfl⟩
    | 34, _ => exact ⟨_, rfl⟩
    | k + 35, hk => exact absurd hk (by omega)
  · exact List.getElem?_eq_none hk
-- fields of M: 0 Model.pages, 1 Model.records, 2 Model.used, 3 Model.read, 4 Model.written, 5 Model.runs, 6 Model.passes, 7 Model.most, 8 Model.isFull, 9 Model.here, 10 Model.count, 11 Model.firsts, 12 Model.held, 13 Model.mode, 14 Model.isOnce, 15 Model.toldMany, 16 Model.taken
-- rows of M: 1 Model.key, 2 Model.tag, 3 Model.many, 4 Model.runKey, 5 Model.runTag, 6 Model.start, 7 Model.firstRuns, 8 Model.memoryKey, 9 Model.memoryTag, 10 Model.memoryCame, 11 Model.isNext, 12 Model.told, 13 Model.toldRuns, 14 Model.newStart, 15 Model.place, 16 Model.end, 17 Model.leftKey, 18 Model.leftTag, 19 Model.rightKey, 20 Model.rightTag
def es_wM (a : Nat → Nat) (cI cZ : ClassId) (N : Nat → Nat) (S : es_St) : va_W := [(a 0, .inr (8, [.int (S.1 0), .int (S.1 1), .ref (a 1), .ref (a 2), .ref (a 3), .int (S.1 2), .int (S.1 3), .int (S.1 4), .int (S.1 5), .int (S.1 6), .int (S.1 7), .int (S.1 8), .ref (a 4), .ref (a 5), .int (S.1 9), .int (S.1 10), .ref (a 6), .ref (a 7), .int (S.1 11), .ref (a 8), .ref (a 9), .ref (a 10), .ref (a 11), .int (S.1 12), .int (S.1 13), .int (S.1 14), .ref (a 12), .ref (a 13), .int (S.1 15), .int (S.1 16), .ref (a 14), .ref (a 15), .ref (a 16), .ref (a 17), .ref (a 18), .ref (a 19), .ref (a 20)])), (a 1, .inl (cI, N 1, .inl (S.2 1))), (a 2, .inl (cI, N 2, .inl (S.2 2))), (a 3, .inl (cI, N 3, .inl (S.2 3))), (a 4, .inl (cI, N 4, .inl (S.2 4))), (a 5, .inl (cI, N 5, .inl (S.2 5))), (a 6, .inl (cI, N 6, .inl (S.2 6))), (a 7, .inl (cI, N 7, .inl (S.2 7))), (a 8, .inl (cI, N 8, .inl (S.2 8))), (a 9, .inl (cI, N 9, .inl (S.2 9))), (a 10, .inl (cI, N 10, .inl (S.2 10))), (a 11, .inl (cZ, N 11, .inl (S.2 11))), (a 12, .inl (cI, N 12, .inl (S.2 12))), (a 13, .inl (cI, N 13, .inl (S.2 13))), (a 14, .inl (cI, N 14, .inl (S.2 14))), (a 15, .inl (cI, N 15, .inl (S.2 15))), (a 16, .inl (cI, N 16, .inl (S.2 16))), (a 17, .inl (cI, N 17, .inl (S.2 17))), (a 18, .inl (cI, N 18, .inl (S.2 18))), (a 19, .inl (cI, N 19, .inl (S.2 19))), (a 20, .inl (cI, N 20, .inl (S.2 20)))]
theorem es_wM_0 (a : Nat → Nat) (cI cZ : ClassId) (N : Nat → Nat) (S : es_St) : (es_wM a cI cZ N S)[0]? = some (a 0, .inr (8, [.int (S.1 0), .int (S.1 1), .ref (a 1), .ref (a 2), .ref (a 3), .int (S.1 2), .int (S.1 3), .int (S.1 4), .int (S.1 5), .int (S.1 6), .int (S.1 7), .int (S.1 8), .ref (a 4), .ref (a 5), .int (S.1 9), .int (S.1 10), .ref (a 6), .ref (a 7), .int (S.1 11), .ref (a 8), .ref (a 9), .ref (a 10), .ref (a 11), .int (S.1 12), .int (S.1 13), .int (S.1 14), .ref (a 12), .ref (a 13), .int (S.1 15), .int (S.1 16), .ref (a 14), .ref (a 15), .ref (a 16), .ref (a 17), .ref (a 18), .ref (a 19), .ref (a 20)])) := rfl
theorem es_wM_1 (a : Nat → Nat) (cI cZ : ClassId) (N : Nat → Nat) (S : es_St) : (es_wM a cI cZ N S)[1]? = some (a 1, .inl (cI, N 1, .inl (S.2 1))) := rfl
theorem es_wM_2 (a : Nat → Nat) (cI cZ : ClassId) (N : Nat → Nat) (S : es_St) : (es_wM a cI cZ N S)[2]? = some (a 2, .inl (cI, N 2, .inl (S.2 2))) := rfl
theorem es_wM_3 (a : Nat → Nat) (cI cZ : ClassId) (N : Nat → Nat) (S : es_St) : (es_wM a cI cZ N S)[3]? = some (a 3, .inl (cI, N 3, .inl (S.2 3))) := rfl
theorem es_wM_4 (a : Nat → Nat) (cI cZ : ClassId) (N : Nat → Nat) (S : es_St) : (es_wM a cI cZ N S)[4]? = some (a 4, .inl (cI, N 4, .inl (S.2 4))) := rfl
theorem es_wM_5 (a : Nat → Nat) (cI cZ : ClassId) (N : Nat → Nat) (S : es_St) : (es_wM a cI cZ N S)[5]? = some (a 5, .inl (cI, N 5, .inl (S.2 5))) := rfl
theorem es_wM_6 (a : Nat → Nat) (cI cZ : ClassId) (N : Nat → Nat) (S : es_St) : (es_wM a cI cZ N S)[6]? = some (a 6, .inl (cI, N 6, .inl (S.2 6))) := rfl
theorem es_wM_7 (a : Nat → Nat) (cI cZ : ClassId) (N : Nat → Nat) (S : es_St) : (es_wM a cI cZ N S)[7]? = some (a 7, .inl (cI, N 7, .inl (S.2 7))) := rfl
theorem es_wM_8 (a : Nat → Nat) (cI cZ : ClassId) (N : Nat → Nat) (S : es_St) : (es_wM a cI cZ N S)[8]? = some (a 8, .inl (cI, N 8, .inl (S.2 8))) := rfl
theorem es_wM_9 (a : Nat → Nat) (cI cZ : ClassId) (N : Nat → Nat) (S : es_St) : (es_wM a cI cZ N S)[9]? = some (a 9, .inl (cI, N 9, .inl (S.2 9))) := rfl
theorem es_wM_10 (a : Nat → Nat) (cI cZ : ClassId) (N : Nat → Nat) (S : es_St) : (es_wM a cI cZ N S)[10]? = some (a 10, .inl (cI, N 10, .inl (S.2 10))) := rfl
theorem es_wM_11 (a : Nat → Nat) (cI cZ : ClassId) (N : Nat → Nat) (S : es_St) : (es_wM a cI cZ N S)[11]? = some (a 11, .inl (cZ, N 11, .inl (S.2 11))) := rfl
theorem es_wM_12 (a : Nat → Nat) (cI cZ : ClassId) (N : Nat → Nat) (S : es_St) : (es_wM a cI cZ N S)[12]? = some (a 12, .inl (cI, N 12, .inl (S.2 12))) := rfl
theorem es_wM_13 (a : Nat → Nat) (cI cZ : ClassId) (N : Nat → Nat) (S : es_St) : (es_wM a cI cZ N S)[13]? = some (a 13, .inl (cI, N 13, .inl (S.2 13))) := rfl
theorem es_wM_14 (a : Nat → Nat) (cI cZ : ClassId) (N : Nat → Nat) (S : es_St) : (es_wM a cI cZ N S)[14]? = some (a 14, .inl (cI, N 14, .inl (S.2 14))) := rfl
theorem es_wM_15 (a : Nat → Nat) (cI cZ : ClassId) (N : Nat → Nat) (S : es_St) : (es_wM a cI cZ N S)[15]? = some (a 15, .inl (cI, N 15, .inl (S.2 15))) := rfl
theorem es_wM_16 (a : Nat → Nat) (cI cZ : ClassId) (N : Nat → Nat) (S : es_St) : (es_wM a cI cZ N S)[16]? = some (a 16, .inl (cI, N 16, .inl (S.2 16))) := rfl
theorem es_wM_17 (a : Nat → Nat) (cI cZ : ClassId) (N : Nat → Nat) (S : es_St) : (es_wM a cI cZ N S)[17]? = some (a 17, .inl (cI, N 17, .inl (S.2 17))) := rfl
theorem es_wM_18 (a : Nat → Nat) (cI cZ : ClassId) (N : Nat → Nat) (S : es_St) : (es_wM a cI cZ N S)[18]? = some (a 18, .inl (cI, N 18, .inl (S.2 18))) := rfl
theorem es_wM_19 (a : Nat → Nat) (cI cZ : ClassId) (N : Nat → Nat) (S : es_St) : (es_wM a cI cZ N S)[19]? = some (a 19, .inl (cI, N 19, .inl (S.2 19))) := rfl
theorem es_wM_20 (a : Nat → Nat) (cI cZ : ClassId) (N : Nat → Nat) (S : es_St) : (es_wM a cI cZ N S)[20]? = some (a 20, .inl (cI, N 20, .inl (S.2 20))) := rfl
theorem es_sM_0 (a : Nat → Nat) (cI cZ : ClassId) (N : Nat → Nat) (S : es_St) (v : Int32) : (es_wM a cI cZ N S).set 0 (a 0, .inr (8, ([.int (S.1 0), .int (S.1 1), .ref (a 1), .ref (a 2), .ref (a 3), .int (S.1 2), .int (S.1 3), .int (S.1 4), .int (S.1 5), .int (S.1 6), .int (S.1 7), .int (S.1 8), .ref (a 4), .ref (a 5), .int (S.1 9), .int (S.1 10), .ref (a 6), .ref (a 7), .int (S.1 11), .ref (a 8), .ref (a 9), .ref (a 10), .ref (a 11), .int (S.1 12), .int (S.1 13), .int (S.1 14), .ref (a 12), .ref (a 13), .int (S.1 15), .int (S.1 16), .ref (a 14), .ref (a 15), .ref (a 16), .ref (a 17), .ref (a 18), .ref (a 19), .ref (a 20)] : List Value).set 0 (.int v))) = es_wM a cI cZ N (es_F S 0 v) := rfl
theorem es_sM_1 (a : Nat → Nat) (cI cZ : ClassId) (N : Nat → Nat) (S : es_St) (v : Int32) : (es_wM a cI cZ N S).set 0 (a 0, .inr (8, ([.int (S.1 0), .int (S.1 1), .ref (a 1), .ref (a 2), .ref (a 3), .int (S.1 2), .int (S.1 3), .int (S.1 4), .int (S.1 5), .int (S.1 6), .int (S.1 7), .int (S.1 8), .ref (a 4), .ref (a 5), .int (S.1 9), .int (S.1 10), .ref (a 6), .ref (a 7), .int (S.1 11), .ref (a 8), .ref (a 9), .ref (a 10), .ref (a 11), .int (S.1 12), .int (S.1 13), .int (S.1 14), .ref (a 12), .ref (a 13), .int (S.1 15), .int (S.1 16), .ref (a 14), .ref (a 15), .ref (a 16), .ref (a 17), .ref (a 18), .ref (a 19), .ref (a 20)] : List Value).set 1 (.int v))) = es_wM a cI cZ N (es_F S 1 v) := rfl
theorem es_sM_2 (a : Nat → Nat) (cI cZ : ClassId) (N : Nat → Nat) (S : es_St) (v : Int32) : (es_wM a cI cZ N S).set 0 (a 0, .inr (8, ([.int (S.1 0), .int (S.1 1), .ref (a 1), .ref (a 2), .ref (a 3), .int (S.1 2), .int (S.1 3), .int (S.1 4), .int (S.1 5), .int (S.1 6), .int (S.1 7), .int (S.1 8), .ref (a 4), .ref (a 5), .int (S.1 9), .int (S.1 10), .ref (a 6), .ref (a 7), .int (S.1 11), .ref (a 8), .ref (a 9), .ref (a 10), .ref (a 11), .int (S.1 12), .int (S.1 13), .int (S.1 14), .ref (a 12), .ref (a 13), .int (S.1 15), .int (S.1 16), .ref (a 14), .ref (a 15), .ref (a 16), .ref (a 17), .ref (a 18), .ref (a 19), .ref (a 20)] : List Value).set 5 (.int v))) = es_wM a cI cZ N (es_F S 2 v) := rfl
theorem es_sM_3 (a : Nat → Nat) (cI cZ : ClassId) (N : Nat → Nat) (S : es_St) (v : Int32) : (es_wM a cI cZ N S).set 0 (a 0, .inr (8, ([.int (S.1 0), .int (S.1 1), .ref (a 1), .ref (a 2), .ref (a 3), .int (S.1 2), .int (S.1 3), .int (S.1 4), .int (S.1 5), .int (S.1 6), .int (S.1 7), .int (S.1 8), .ref (a 4), .ref (a 5), .int (S.1 9), .int (S.1 10), .ref (a 6), .ref (a 7), .int (S.1 11), .ref (a 8), .ref (a 9), .ref (a 10), .ref (a 11), .int (S.1 12), .int (S.1 13), .int (S.1 14), .ref (a 12), .ref (a 13), .int (S.1 15), .int (S.1 16), .ref (a 14), .ref (a 15), .ref (a 16), .ref (a 17), .ref (a 18), .ref (a 19), .ref (a 20)] : List Value).set 6 (.int v))) = es_wM a cI cZ N (es_F S 3 v) := rfl
theorem es_sM_4 (a : Nat → Nat) (cI cZ : ClassId) (N : Nat → Nat) (S : es_St) (v : Int32) : (es_wM a cI cZ N S).set 0 (a 0, .inr (8, ([.int (S.1 0), .int (S.1 1), .ref (a 1), .ref (a 2), .ref (a 3), .int (S.1 2), .int (S.1 3), .int (S.1 4), .int (S.1 5), .int (S.1 6), .int (S.1 7), .int (S.1 8), .ref (a 4), .ref (a 5), .int (S.1 9), .int (S.1 10), .ref (a 6), .ref (a 7), .int (S.1 11), .ref (a 8), .ref (a 9), .ref (a 10), .ref (a 11), .int (S.1 12), .int (S.1 13), .int (S.1 14), .ref (a 12), .ref (a 13), .int (S.1 15), .int (S.1 16), .ref (a 14), .ref (a 15), .ref (a 16), .ref (a 17), .ref (a 18), .ref (a 19), .ref (a 20)] : List Value).set 7 (.int v))) = es_wM a cI cZ N (es_F S 4 v) := rfl
theorem es_sM_5 (a : Nat → Nat) (cI cZ : ClassId) (N : Nat → Nat) (S : es_St) (v : Int32) : (es_wM a cI cZ N S).set 0 (a 0, .inr (8, ([.int (S.1 0), .int (S.1 1), .ref (a 1), .ref (a 2), .ref (a 3), .int (S.1 2), .int (S.1 3), .int (S.1 4), .int (S.1 5), .int (S.1 6), .int (S.1 7), .int (S.1 8), .ref (a 4), .ref (a 5), .int (S.1 9), .int (S.1 10), .ref (a 6), .ref (a 7), .int (S.1 11), .ref (a 8), .ref (a 9), .ref (a 10), .ref (a 11), .int (S.1 12), .int (S.1 13), .int (S.1 14), .ref (a 12), .ref (a 13), .int (S.1 15), .int (S.1 16), .ref (a 14), .ref (a 15), .ref (a 16), .ref (a 17), .ref (a 18), .ref (a 19), .ref (a 20)] : List Value).set 8 (.int v))) = es_wM a cI cZ N (es_F S 5 v) := rfl
theorem es_sM_6 (a : Nat → Nat) (cI cZ : ClassId) (N : Nat → Nat) (S : es_St) (v : Int32) : (es_wM a cI cZ N S).set 0 (a 0, .inr (8, ([.int (S.1 0), .int (S.1 1), .ref (a 1), .ref (a 2), .ref (a 3), .int (S.1 2), .int (S.1 3), .int (S.1 4), .int (S.1 5), .int (S.1 6), .int (S.1 7), .int (S.1 8), .ref (a 4), .ref (a 5), .int (S.1 9), .int (S.1 10), .ref (a 6), .ref (a 7), .int (S.1 11), .ref (a 8), .ref (a 9), .ref (a 10), .ref (a 11), .int (S.1 12), .int (S.1 13), .int (S.1 14), .ref (a 12), .ref (a 13), .int (S.1 15), .int (S.1 16), .ref (a 14), .ref (a 15), .ref (a 16), .ref (a 17), .ref (a 18), .ref (a 19), .ref (a 20)] : List Value).set 9 (.int v))) = es_wM a cI cZ N (es_F S 6 v) := rfl
theorem es_sM_7 (a : Nat → Nat) (cI cZ : ClassId) (N : Nat → Nat) (S : es_St) (v : Int32) : (es_wM a cI cZ N S).set 0 (a 0, .inr (8, ([.int (S.1 0), .int (S.1 1), .ref (a 1), .ref (a 2), .ref (a 3), .int (S.1 2), .int (S.1 3), .int (S.1 4), .int (S.1 5), .int (S.1 6), .int (S.1 7), .int (S.1 8), .ref (a 4), .ref (a 5), .int (S.1 9), .int (S.1 10), .ref (a 6), .ref (a 7), .int (S.1 11), .ref (a 8), .ref (a 9), .ref (a 10), .ref (a 11), .int (S.1 12), .int (S.1 13), .int (S.1 14), .ref (a 12), .ref (a 13), .int (S.1 15), .int (S.1 16), .ref (a 14), .ref (a 15), .ref (a 16), .ref (a 17), .ref (a 18), .ref (a 19), .ref (a 20)] : List Value).set 10 (.int v))) = es_wM a cI cZ N (es_F S 7 v) := rfl
theorem es_sM_8 (a : Nat → Nat) (cI cZ : ClassId) (N : Nat → Nat) (S : es_St) (v : Int32) : (es_wM a cI cZ N S).set 0 (a 0, .inr (8, ([.int (S.1 0), .int (S.1 1), .ref (a 1), .ref (a 2), .ref (a 3), .int (S.1 2), .int (S.1 3), .int (S.1 4), .int (S.1 5), .int (S.1 6), .int (S.1 7), .int (S.1 8), .ref (a 4), .ref (a 5), .int (S.1 9), .int (S.1 10), .ref (a 6), .ref (a 7), .int (S.1 11), .ref (a 8), .ref (a 9), .ref (a 10), .ref (a 11), .int (S.1 12), .int (S.1 13), .int (S.1 14), .ref (a 12), .ref (a 13), .int (S.1 15), .int (S.1 16), .ref (a 14), .ref (a 15), .ref (a 16), .ref (a 17), .ref (a 18), .ref (a 19), .ref (a 20)] : List Value).set 11 (.int v))) = es_wM a cI cZ N (es_F S 8 v) := rfl
theorem es_sM_9 (a : Nat → Nat) (cI cZ : ClassId) (N : Nat → Nat) (S : es_St) (v : Int32) : (es_wM a cI cZ N S).set 0 (a 0, .inr (8, ([.int (S.1 0), .int (S.1 1), .ref (a 1), .ref (a 2), .ref (a 3), .int (S.1 2), .int (S.1 3), .int (S.1 4), .int (S.1 5), .int (S.1 6), .int (S.1 7), .int (S.1 8), .ref (a 4), .ref (a 5), .int (S.1 9), .int (S.1 10), .ref (a 6), .ref (a 7), .int (S.1 11), .ref (a 8), .ref (a 9), .ref (a 10), .ref (a 11), .int (S.1 12), .int (S.1 13), .int (S.1 14), .ref (a 12), .ref (a 13), .int (S.1 15), .int (S.1 16), .ref (a 14), .ref (a 15), .ref (a 16), .ref (a 17), .ref (a 18), .ref (a 19), .ref (a 20)] : List Value).set 14 (.int v))) = es_wM a cI cZ N (es_F S 9 v) := rfl
theorem es_sM_10 (a : Nat → Nat) (cI cZ : ClassId) (N : Nat → Nat) (S : es_St) (v : Int32) : (es_wM a cI cZ N S).set 0 (a 0, .inr (8, ([.int (S.1 0), .int (S.1 1), .ref (a 1), .ref (a 2), .ref (a 3), .int (S.1 2), .int (S.1 3), .int (S.1 4), .int (S.1 5), .int (S.1 6), .int (S.1 7), .int (S.1 8), .ref (a 4), .ref (a 5), .int (S.1 9), .int (S.1 10), .ref (a 6), .ref (a 7), .int (S.1 11), .ref (a 8), .ref (a 9), .ref (a 10), .ref (a 11), .int (S.1 12), .int (S.1 13), .int (S.1 14), .ref (a 12), .ref (a 13), .int (S.1 15), .int (S.1 16), .ref (a 14), .ref (a 15), .ref (a 16), .ref (a 17), .ref (a 18), .ref (a 19), .ref (a 20)] : List Value).set 15 (.int v))) = es_wM a cI cZ N (es_F S 10 v) := rfl
theorem es_sM_11 (a : Nat → Nat) (cI cZ : ClassId) (N : Nat → Nat) (S : es_St) (v : Int32) : (es_wM a cI cZ N S).set 0 (a 0, .inr (8, ([.int (S.1 0), .int (S.1 1), .ref (a 1), .ref (a 2), .ref (a 3), .int (S.1 2), .int (S.1 3), .int (S.1 4), .int (S.1 5), .int (S.1 6), .int (S.1 7), .int (S.1 8), .ref (a 4), .ref (a 5), .int (S.1 9), .int (S.1 10), .ref (a 6), .ref (a 7), .int (S.1 11), .ref (a 8), .ref (a 9), .ref (a 10), .ref (a 11), .int (S.1 12), .int (S.1 13), .int (S.1 14), .ref (a 12), .ref (a 13), .int (S.1 15), .int (S.1 16), .ref (a 14), .ref (a 15), .ref (a 16), .ref (a 17), .ref (a 18), .ref (a 19), .ref (a 20)] : List Value).set 18 (.int v))) = es_wM a cI cZ N (es_F S 11 v) := rfl
theorem es_sM_12 (a : Nat → Nat) (cI cZ : ClassId) (N : Nat → Nat) (S : es_St) (v : Int32) : (es_wM a cI cZ N S).set 0 (a 0, .inr (8, ([.int (S.1 0), .int (S.1 1), .ref (a 1), .ref (a 2), .ref (a 3), .int (S.1 2), .int (S.1 3), .int (S.1 4), .int (S.1 5), .int (S.1 6), .int (S.1 7), .int (S.1 8), .ref (a 4), .ref (a 5), .int (S.1 9), .int (S.1 10), .ref (a 6), .ref (a 7), .int (S.1 11), .ref (a 8), .ref (a 9), .ref (a 10), .ref (a 11), .int (S.1 12), .int (S.1 13), .int (S.1 14), .ref (a 12), .ref (a 13), .int (S.1 15), .int (S.1 16), .ref (a 14), .ref (a 15), .ref (a 16), .ref (a 17), .ref (a 18), .ref (a 19), .ref (a 20)] : List Value).set 23 (.int v))) = es_wM a cI cZ N (es_F S 12 v) := rfl
theorem es_sM_13 (a : Nat → Nat) (cI cZ : ClassId) (N : Nat → Nat) (S : es_St) (v : Int32) : (es_wM a cI cZ N S).set 0 (a 0, .inr (8, ([.int (S.1 0), .int (S.1 1), .ref (a 1), .ref (a 2), .ref (a 3), .int (S.1 2), .int (S.1 3), .int (S.1 4), .int (S.1 5), .int (S.1 6), .int (S.1 7), .int (S.1 8), .ref (a 4), .ref (a 5), .int (S.1 9), .int (S.1 10), .ref (a 6), .ref (a 7), .int (S.1 11), .ref (a 8), .ref (a 9), .ref (a 10), .ref (a 11), .int (S.1 12), .int (S.1 13), .int (S.1 14), .ref (a 12), .ref (a 13), .int (S.1 15), .int (S.1 16), .ref (a 14), .ref (a 15), .ref (a 16), .ref (a 17), .ref (a 18), .ref (a 19), .ref (a 20)] : List Value).set 24 (.int v))) = es_wM a cI cZ N (es_F S 13 v) := rfl
theorem es_sM_14 (a : Nat → Nat) (cI cZ : ClassId) (N : Nat → Nat) (S : es_St) (v : Int32) : (es_wM a cI cZ N S).set 0 (a 0, .inr (8, ([.int (S.1 0), .int (S.1 1), .ref (a 1), .ref (a 2), .ref (a 3), .int (S.1 2), .int (S.1 3), .int (S.1 4), .int (S.1 5), .int (S.1 6), .int (S.1 7), .int (S.1 8), .ref (a 4), .ref (a 5), .int (S.1 9), .int (S.1 10), .ref (a 6), .ref (a 7), .int (S.1 11), .ref (a 8), .ref (a 9), .ref (a 10), .ref (a 11), .int (S.1 12), .int (S.1 13), .int (S.1 14), .ref (a 12), .ref (a 13), .int (S.1 15), .int (S.1 16), .ref (a 14), .ref (a 15), .ref (a 16), .ref (a 17), .ref (a 18), .ref (a 19), .ref (a 20)] : List Value).set 25 (.int v))) = es_wM a cI cZ N (es_F S 14 v) := rfl
theorem es_sM_15 (a : Nat → Nat) (cI cZ : ClassId) (N : Nat → Nat) (S : es_St) (v : Int32) : (es_wM a cI cZ N S).set 0 (a 0, .inr (8, ([.int (S.1 0), .int (S.1 1), .ref (a 1), .ref (a 2), .ref (a 3), .int (S.1 2), .int (S.1 3), .int (S.1 4), .int (S.1 5), .int (S.1 6), .int (S.1 7), .int (S.1 8), .ref (a 4), .ref (a 5), .int (S.1 9), .int (S.1 10), .ref (a 6), .ref (a 7), .int (S.1 11), .ref (a 8), .ref (a 9), .ref (a 10), .ref (a 11), .int (S.1 12), .int (S.1 13), .int (S.1 14), .ref (a 12), .ref (a 13), .int (S.1 15), .int (S.1 16), .ref (a 14), .ref (a 15), .ref (a 16), .ref (a 17), .ref (a 18), .ref (a 19), .ref (a 20)] : List Value).set 28 (.int v))) = es_wM a cI cZ N (es_F S 15 v) := rfl
theorem es_sM_16 (a : Nat → Nat) (cI cZ : ClassId) (N : Nat → Nat) (S : es_St) (v : Int32) : (es_wM a cI cZ N S).set 0 (a 0, .inr (8, ([.int (S.1 0), .int (S.1 1), .ref (a 1), .ref (a 2), .ref (a 3), .int (S.1 2), .int (S.1 3), .int (S.1 4), .int (S.1 5), .int (S.1 6), .int (S.1 7), .int (S.1 8), .ref (a 4), .ref (a 5), .int (S.1 9), .int (S.1 10), .ref (a 6), .ref (a 7), .int (S.1 11), .ref (a 8), .ref (a 9), .ref (a 10), .ref (a 11), .int (S.1 12), .int (S.1 13), .int (S.1 14), .ref (a 12), .ref (a 13), .int (S.1 15), .int (S.1 16), .ref (a 14), .ref (a 15), .ref (a 16), .ref (a 17), .ref (a 18), .ref (a 19), .ref (a 20)] : List Value).set 29 (.int v))) = es_wM a cI cZ N (es_F S 16 v) := rfl
theorem es_rM_1 (a : Nat → Nat) (cI cZ : ClassId) (N : Nat → Nat) (S : es_St) (f : Nat → Int32) : (es_wM a cI cZ N S).set 1 (a 1, .inl (cI, N 1, .inl f)) = es_wM a cI cZ N (es_R S 1 f) := rfl
theorem es_rM_2 (a : Nat → Nat) (cI cZ : ClassId) (N : Nat → Nat) (S : es_St) (f : Nat → Int32) : (es_wM a cI cZ N S).set 2 (a 2, .inl (cI, N 2, .inl f)) = es_wM a cI cZ N (es_R S 2 f) := rfl
theorem es_rM_3 (a : Nat → Nat) (cI cZ : ClassId) (N : Nat → Nat) (S : es_St) (f : Nat → Int32) : (es_wM a cI cZ N S).set 3 (a 3, .inl (cI, N 3, .inl f)) = es_wM a cI cZ N (es_R S 3 f) := rfl
theorem es_rM_4 (a : Nat → Nat) (cI cZ : ClassId) (N : Nat → Nat) (S : es_St) (f : Nat → Int32) : (es_wM a cI cZ N S).set 4 (a 4, .inl (cI, N 4, .inl f)) = es_wM a cI cZ N (es_R S 4 f) := rfl
theorem es_rM_5 (a : Nat → Nat) (cI cZ : ClassId) (N : Nat → Nat) (S : es_St) (f : Nat → Int32) : (es_wM a cI cZ N S).set 5 (a 5, .inl (cI, N 5, .inl f)) = es_wM a cI cZ N (es_R S 5 f) := rfl
theorem es_rM_6 (a : Nat → Nat) (cI cZ : ClassId) (N : Nat → Nat) (S : es_St) (f : Nat → Int32) : (es_wM a cI cZ N S).set 6 (a 6, .inl (cI, N 6, .inl f)) = es_wM a cI cZ N (es_R S 6 f) := rfl
theorem es_rM_7 (a : Nat → Nat) (cI cZ : ClassId) (N : Nat → Nat) (S : es_St) (f : Nat → Int32) : (es_wM a cI cZ N S).set 7 (a 7, .inl (cI, N 7, .inl f)) = es_wM a cI cZ N (es_R S 7 f) := rfl
theorem es_rM_8 (a : Nat → Nat) (cI cZ : ClassId) (N : Nat → Nat) (S : es_St) (f : Nat → Int32) : (es_wM a cI cZ N S).set 8 (a 8, .inl (cI, N 8, .inl f)) = es_wM a cI cZ N (es_R S 8 f) := rfl
theorem es_rM_9 (a : Nat → Nat) (cI cZ : ClassId) (N : Nat → Nat) (S : es_St) (f : Nat → Int32) : (es_wM a cI cZ N S).set 9 (a 9, .inl (cI, N 9, .inl f)) = es_wM a cI cZ N (es_R S 9 f) := rfl
theorem es_rM_10 (a : Nat → Nat) (cI cZ : ClassId) (N : Nat → Nat) (S : es_St) (f : Nat → Int32) : (es_wM a cI cZ N S).set 10 (a 10, .inl (cI, N 10, .inl f)) = es_wM a cI cZ N (es_R S 10 f) := rfl
theorem es_rM_11 (a : Nat → Nat) (cI cZ : ClassId) (N : Nat → Nat) (S : es_St) (f : Nat → Int32) : (es_wM a cI cZ N S).set 11 (a 11, .inl (cZ, N 11, .inl f)) = es_wM a cI cZ N (es_R S 11 f) := rfl
theorem es_rM_12 (a : Nat → Nat) (cI cZ : ClassId) (N : Nat → Nat) (S : es_St) (f : Nat → Int32) : (es_wM a cI cZ N S).set 12 (a 12, .inl (cI, N 12, .inl f)) = es_wM a cI cZ N (es_R S 12 f) := rfl
theorem es_rM_13 (a : Nat → Nat) (cI cZ : ClassId) (N : Nat → Nat) (S : es_St) (f : Nat → Int32) : (es_wM a cI cZ N S).set 13 (a 13, .inl (cI, N 13, .inl f)) = es_wM a cI cZ N (es_R S 13 f) := rfl
theorem es_rM_14 (a : Nat → Nat) (cI cZ : ClassId) (N : Nat → Nat) (S : es_St) (f : Nat → Int32) : (es_wM a cI cZ N S).set 14 (a 14, .inl (cI, N 14, .inl f)) = es_wM a cI cZ N (es_R S 14 f) := rfl
theorem es_rM_15 (a : Nat → Nat) (cI cZ : ClassId) (N : Nat → Nat) (S : es_St) (f : Nat → Int32) : (es_wM a cI cZ N S).set 15 (a 15, .inl (cI, N 15, .inl f)) = es_wM a cI cZ N (es_R S 15 f) := rfl
theorem es_rM_16 (a : Nat → Nat) (cI cZ : ClassId) (N : Nat → Nat) (S : es_St) (f : Nat → Int32) : (es_wM a cI cZ N S).set 16 (a 16, .inl (cI, N 16, .inl f)) = es_wM a cI cZ N (es_R S 16 f) := rfl
theorem es_rM_17 (a : Nat → Nat) (cI cZ : ClassId) (N : Nat → Nat) (S : es_St) (f : Nat → Int32) : (es_wM a cI cZ N S).set 17 (a 17, .inl (cI, N 17, .inl f)) = es_wM a cI cZ N (es_R S 17 f) := rfl
theorem es_rM_18 (a : Nat → Nat) (cI cZ : ClassId) (N : Nat → Nat) (S : es_St) (f : Nat → Int32) : (es_wM a cI cZ N S).set 18 (a 18, .inl (cI, N 18, .inl f)) = es_wM a cI cZ N (es_R S 18 f) := rfl
theorem es_rM_19 (a : Nat → Nat) (cI cZ : ClassId) (N : Nat → Nat) (S : es_St) (f : Nat → Int32) : (es_wM a cI cZ N S).set 19 (a 19, .inl (cI, N 19, .inl f)) = es_wM a cI cZ N (es_R S 19 f) := rfl
theorem es_rM_20 (a : Nat → Nat) (cI cZ : ClassId) (N : Nat → Nat) (S : es_St) (f : Nat → Int32) : (es_wM a cI cZ N S).set 20 (a 20, .inl (cI, N 20, .inl f)) = es_wM a cI cZ N (es_R S 20 f) := rfl
theorem es_okM (a : Nat → Nat) (cI cZ : ClassId) (N : Nat → Nat) : es_ok (es_wM a cI cZ N) 21 a := by
  refine ⟨fun S k hk => ?_, fun S k hk => ?_⟩
  · match k, hk with
    | 0, _ => exact ⟨_, rfl⟩
    | 1, _ => exact ⟨_, rfl⟩
    | 2, _ => exact ⟨_, rfl⟩
    | 3, _ => exact ⟨_, rfl⟩
    | 4, _ => exact ⟨_, rfl⟩
    | 5, _ => exact ⟨_, rfl⟩
    | 6, _ => exact ⟨_, rfl⟩
    | 7, _ => exact ⟨_, rfl⟩
    | 8, _ => exact ⟨_, rfl⟩
    | 9, _ => exact ⟨_, rfl⟩
    | 10, _ => exact ⟨_, rfl⟩
    | 11, _ => exact ⟨_, rfl⟩
    | 12, _ => exact ⟨_, rfl⟩
    | 13, _ => exact ⟨_, rfl⟩
    | 14, _ => exact ⟨_, rfl⟩
    | 15, _ => exact ⟨_, rfl⟩
    | 16, _ => exact ⟨_, rfl⟩
    | 17, _ => exact ⟨_, rfl⟩
    | 18, _ => exact ⟨_, rfl⟩
    | 19, _ => exact ⟨_, rfl⟩
    | 20, _ => exact ⟨_, rfl⟩
    | k + 21, hk => exact absurd hk (by omega)
  · exact List.getElem?_eq_none hk
theorem es_u1_2 : Cond.initialized RX7 ∈ wsL_law := es_ur1 _ (List.mem_of_getElem? (i := 2) rfl)
theorem es_u1_5 : Cond.initialized RX8 ∈ wsL_law := es_ur1 _ (List.mem_of_getElem? (i := 5) rfl)
theorem es_u1_17 : Cond.fieldLink RX7 9 "ExternalSort" "fileHead" "[I" ∈ wsL_law := es_ur1 _ (List.mem_of_getElem? (i := 17) rfl)
theorem es_u1_18 : Cond.fieldLink RX7 13 "ExternalSort" "fileCount" "[I" ∈ wsL_law := es_ur1 _ (List.mem_of_getElem? (i := 18) rfl)
theorem es_u1_20 : Cond.static Lib.Math.min.name ∈ wsL_law := es_ur1 _ (List.mem_of_getElem? (i := 20) rfl)
theorem es_u1_21 : Cond.initialized "java/lang/Math" ∈ wsL_law := es_ur1 _ (List.mem_of_getElem? (i := 21) rfl)
theorem es_u1_22 : Cond.code Lib.Math.min.name Lib.Math.min.code 2 (some .int) ∈ wsL_law := es_ur1 _ (List.mem_of_getElem? (i := 22) rfl)
theorem es_u2_0 : Cond.static Lib.Math.max.name ∈ wsL_law := es_ur2 _ (List.mem_of_getElem? (i := 0) rfl)
theorem es_u2_1 : Cond.code Lib.Math.max.name Lib.Math.max.code 2 (some .int) ∈ wsL_law := es_ur2 _ (List.mem_of_getElem? (i := 1) rfl)
theorem es_u2_4 : Cond.initialized RX6 ∈ wsL_law := es_ur2 _ (List.mem_of_getElem? (i := 4) rfl)
theorem es_u2_5 : Cond.fieldLink RX7 30 "ExternalSort" "pending" "LExternalSort$Tally;" ∈ wsL_law := es_ur2 _ (List.mem_of_getElem? (i := 5) rfl)
theorem es_u2_6 : Cond.fieldLink RX7 34 "ExternalSort" "latest" "LExternalSort$Tally;" ∈ wsL_law := es_ur2 _ (List.mem_of_getElem? (i := 6) rfl)
theorem es_u2_9 : Cond.initialized RX0 ∈ wsL_law := es_ur2 _ (List.mem_of_getElem? (i := 9) rfl)
theorem es_u2_10 : Cond.fieldLink RX7 42 "ExternalSort" "disk" "LExternalSort$Disk;" ∈ wsL_law := es_ur2 _ (List.mem_of_getElem? (i := 10) rfl)
theorem es_u2_13 : Cond.initialized RX4 ∈ wsL_law := es_ur2 _ (List.mem_of_getElem? (i := 13) rfl)
theorem es_u2_14 : Cond.fieldLink RX7 51 "ExternalSort" "output" "LExternalSort$Output;" ∈ wsL_law := es_ur2 _ (List.mem_of_getElem? (i := 14) rfl)
theorem es_u2_17 : Cond.initialized RX5 ∈ wsL_law := es_ur2 _ (List.mem_of_getElem? (i := 17) rfl)
theorem es_u2_18 : Cond.fieldLink RX7 60 "ExternalSort" "sorter" "LExternalSort$Sorter;" ∈ wsL_law := es_ur2 _ (List.mem_of_getElem? (i := 18) rfl)
theorem es_u2_21 : Cond.initialized RX2 ∈ wsL_law := es_ur2 _ (List.mem_of_getElem? (i := 21) rfl)
theorem es_u2_22 : Cond.fieldLink RX7 67 "ExternalSort" "joiner" "LExternalSort$Joiner;" ∈ wsL_law := es_ur2 _ (List.mem_of_getElem? (i := 22) rfl)
theorem es_u3_4 : Cond.fieldLink RX6 15 "ExternalSort$Tally" "lengths" "[I" ∈ wsL_law := es_ur3 _ (List.mem_of_getElem? (i := 4) rfl)
theorem es_u3_10 : Cond.fieldLink RX0 15 "ExternalSort$Disk" "pages" "I" ∈ wsL_law := es_ur3 _ (List.mem_of_getElem? (i := 10) rfl)
theorem es_u3_11 : Cond.fieldLink RX0 21 "ExternalSort$Disk" "records" "I" ∈ wsL_law := es_ur3 _ (List.mem_of_getElem? (i := 11) rfl)
theorem es_u3_12 : Cond.fieldLink RX0 24 "ExternalSort$Disk" "tally" "LExternalSort$Tally;" ∈ wsL_law := es_ur3 _ (List.mem_of_getElem? (i := 12) rfl)
theorem es_u3_13 : Cond.fieldLink RX0 28 "ExternalSort$Disk" "keys" "[I" ∈ wsL_law := es_ur3 _ (List.mem_of_getElem? (i := 13) rfl)
theorem es_u3_14 : Cond.fieldLink RX0 32 "ExternalSort$Disk" "tags" "[I" ∈ wsL_law := es_ur3 _ (List.mem_of_getElem? (i := 14) rfl)
theorem es_u3_15 : Cond.fieldLink RX0 35 "ExternalSort$Disk" "owner" "[I" ∈ wsL_law := es_ur3 _ (List.mem_of_getElem? (i := 15) rfl)
theorem es_u3_16 : Cond.fieldLink RX0 38 "ExternalSort$Disk" "follower" "[I" ∈ wsL_law := es_ur3 _ (List.mem_of_getElem? (i := 16) rfl)
theorem es_u3_17 : Cond.fieldLink RX0 41 "ExternalSort$Disk" "free" "[I" ∈ wsL_law := es_ur3 _ (List.mem_of_getElem? (i := 17) rfl)
theorem es_u3_18 : Cond.fieldLink RX0 44 "ExternalSort$Disk" "freeCount" "I" ∈ wsL_law := es_ur3 _ (List.mem_of_getElem? (i := 18) rfl)
theorem es_u3_23 : Cond.fieldLink RX4 9 "ExternalSort$Output" "disk" "LExternalSort$Disk;" ∈ wsL_law := es_ur3 _ (List.mem_of_getElem? (i := 23) rfl)
theorem es_u4_1 : Cond.fieldLink RX4 21 "ExternalSort$Output" "keys" "[I" ∈ wsL_law := es_ur4 _ (List.mem_of_getElem? (i := 1) rfl)
theorem es_u4_2 : Cond.fieldLink RX4 25 "ExternalSort$Output" "tags" "[I" ∈ wsL_law := es_ur4 _ (List.mem_of_getElem? (i := 2) rfl)
theorem es_u4_7 : Cond.fieldLink RX5 9 "ExternalSort$Sorter" "disk" "LExternalSort$Disk;" ∈ wsL_law := es_ur4 _ (List.mem_of_getElem? (i := 7) rfl)
theorem es_u4_8 : Cond.fieldLink RX5 15 "ExternalSort$Sorter" "output" "LExternalSort$Output;" ∈ wsL_law := es_ur4 _ (List.mem_of_getElem? (i := 8) rfl)
theorem es_u4_11 : Cond.initialized RX1 ∈ wsL_law := es_ur4 _ (List.mem_of_getElem? (i := 11) rfl)
theorem es_u4_12 : Cond.fieldLink RX5 24 "ExternalSort$Sorter" "inputs" "LExternalSort$Inputs;" ∈ wsL_law := es_ur4 _ (List.mem_of_getElem? (i := 12) rfl)
theorem es_u4_15 : Cond.initialized RX3 ∈ wsL_law := es_ur4 _ (List.mem_of_getElem? (i := 15) rfl)
theorem es_u4_16 : Cond.fieldLink RX5 30 "ExternalSort$Disk" "records" "I" ∈ wsL_law := es_ur4 _ (List.mem_of_getElem? (i := 16) rfl)
theorem es_u4_17 : Cond.methodLink RX5 36 Lib.Math.max.name ∈ wsL_law := es_ur4 _ (List.mem_of_getElem? (i := 17) rfl)
theorem es_u4_18 : Cond.fieldLink RX5 45 "ExternalSort$Sorter" "tree" "LExternalSort$LoserTree;" ∈ wsL_law := es_ur4 _ (List.mem_of_getElem? (i := 18) rfl)
theorem es_u4_20 : Cond.fieldLink RX5 52 "ExternalSort$Sorter" "runHead" "[I" ∈ wsL_law := es_ur4 _ (List.mem_of_getElem? (i := 20) rfl)
theorem es_u4_21 : Cond.fieldLink RX5 56 "ExternalSort$Sorter" "runCount" "[I" ∈ wsL_law := es_ur4 _ (List.mem_of_getElem? (i := 21) rfl)
theorem es_u5_2 : Cond.fieldLink RX1 11 "ExternalSort$Inputs" "nextPage" "[I" ∈ wsL_law := es_ur5 _ (List.mem_of_getElem? (i := 2) rfl)
theorem es_u5_3 : Cond.fieldLink RX1 15 "ExternalSort$Inputs" "unread" "[I" ∈ wsL_law := es_ur5 _ (List.mem_of_getElem? (i := 3) rfl)
theorem es_u5_4 : Cond.fieldLink RX1 18 "ExternalSort$Inputs" "at" "[I" ∈ wsL_law := es_ur5 _ (List.mem_of_getElem? (i := 4) rfl)
theorem es_u5_5 : Cond.fieldLink RX1 21 "ExternalSort$Inputs" "filled" "[I" ∈ wsL_law := es_ur5 _ (List.mem_of_getElem? (i := 5) rfl)
theorem es_u5_6 : Cond.fieldLink RX1 24 "ExternalSort$Inputs" "disk" "LExternalSort$Disk;" ∈ wsL_law := es_ur5 _ (List.mem_of_getElem? (i := 6) rfl)
theorem es_u5_7 : Cond.fieldLink RX1 28 "ExternalSort$Disk" "records" "I" ∈ wsL_law := es_ur5 _ (List.mem_of_getElem? (i := 7) rfl)
theorem es_u5_8 : Cond.fieldLink RX1 34 "ExternalSort$Inputs" "keys" "[I" ∈ wsL_law := es_ur5 _ (List.mem_of_getElem? (i := 8) rfl)
theorem es_u5_9 : Cond.fieldLink RX1 37 "ExternalSort$Inputs" "tags" "[I" ∈ wsL_law := es_ur5 _ (List.mem_of_getElem? (i := 9) rfl)
theorem es_u5_14 : Cond.methodLink RX3 11 Lib.Math.max.name ∈ wsL_law := es_ur5 _ (List.mem_of_getElem? (i := 14) rfl)
theorem es_u5_15 : Cond.fieldLink RX3 17 "ExternalSort$LoserTree" "rounds" "[I" ∈ wsL_law := es_ur5 _ (List.mem_of_getElem? (i := 15) rfl)
theorem es_u5_16 : Cond.fieldLink RX3 23 "ExternalSort$LoserTree" "keys" "[I" ∈ wsL_law := es_ur5 _ (List.mem_of_getElem? (i := 16) rfl)
theorem es_u5_17 : Cond.fieldLink RX3 26 "ExternalSort$LoserTree" "tags" "[I" ∈ wsL_law := es_ur5 _ (List.mem_of_getElem? (i := 17) rfl)
theorem es_u5_18 : Cond.fieldLink RX3 29 "ExternalSort$LoserTree" "came" "[I" ∈ wsL_law := es_ur5 _ (List.mem_of_getElem? (i := 18) rfl)
theorem es_u5_19 : Cond.fieldLink RX3 32 "ExternalSort$LoserTree" "losers" "[I" ∈ wsL_law := es_ur5 _ (List.mem_of_getElem? (i := 19) rfl)
theorem es_u6_0 : Cond.fieldLink RX2 9 "ExternalSort$Joiner" "disk" "LExternalSort$Disk;" ∈ wsL_law := es_ur6 _ (List.mem_of_getElem? (i := 0) rfl)
theorem es_u6_1 : Cond.fieldLink RX2 15 "ExternalSort$Joiner" "output" "LExternalSort$Output;" ∈ wsL_law := es_ur6 _ (List.mem_of_getElem? (i := 1) rfl)
theorem es_u6_3 : Cond.fieldLink RX2 25 "ExternalSort$Disk" "records" "I" ∈ wsL_law := es_ur6 _ (List.mem_of_getElem? (i := 3) rfl)
theorem es_u6_4 : Cond.fieldLink RX2 28 "ExternalSort$Joiner" "keys" "[I" ∈ wsL_law := es_ur6 _ (List.mem_of_getElem? (i := 4) rfl)
theorem es_u6_5 : Cond.fieldLink RX2 32 "ExternalSort$Joiner" "tags" "[I" ∈ wsL_law := es_ur6 _ (List.mem_of_getElem? (i := 5) rfl)
theorem es_u6_11 : Cond.fieldLink RX8 8 "ExternalSortModel" "key" "[I" ∈ wsL_law := es_ur6 _ (List.mem_of_getElem? (i := 11) rfl)
theorem es_u6_12 : Cond.fieldLink RX8 14 "ExternalSortModel" "tag" "[I" ∈ wsL_law := es_ur6 _ (List.mem_of_getElem? (i := 12) rfl)
theorem es_u6_13 : Cond.fieldLink RX8 17 "ExternalSortModel" "many" "[I" ∈ wsL_law := es_ur6 _ (List.mem_of_getElem? (i := 13) rfl)
theorem es_u6_14 : Cond.fieldLink RX8 20 "ExternalSortModel" "runKey" "[I" ∈ wsL_law := es_ur6 _ (List.mem_of_getElem? (i := 14) rfl)
theorem es_u6_15 : Cond.fieldLink RX8 23 "ExternalSortModel" "runTag" "[I" ∈ wsL_law := es_ur6 _ (List.mem_of_getElem? (i := 15) rfl)
theorem es_u6_16 : Cond.fieldLink RX8 26 "ExternalSortModel" "start" "[I" ∈ wsL_law := es_ur6 _ (List.mem_of_getElem? (i := 16) rfl)
theorem es_u6_17 : Cond.fieldLink RX8 29 "ExternalSortModel" "firstRuns" "[I" ∈ wsL_law := es_ur6 _ (List.mem_of_getElem? (i := 17) rfl)
theorem es_u6_18 : Cond.fieldLink RX8 32 "ExternalSortModel" "memoryKey" "[I" ∈ wsL_law := es_ur6 _ (List.mem_of_getElem? (i := 18) rfl)
theorem es_u6_19 : Cond.fieldLink RX8 35 "ExternalSortModel" "memoryTag" "[I" ∈ wsL_law := es_ur6 _ (List.mem_of_getElem? (i := 19) rfl)
theorem es_u6_20 : Cond.fieldLink RX8 38 "ExternalSortModel" "memoryCame" "[I" ∈ wsL_law := es_ur6 _ (List.mem_of_getElem? (i := 20) rfl)
theorem es_u6_22 : Cond.fieldLink RX8 41 "ExternalSortModel" "isNext" "[Z" ∈ wsL_law := es_ur6 _ (List.mem_of_getElem? (i := 22) rfl)
theorem es_u6_23 : Cond.fieldLink RX8 45 "ExternalSortModel" "told" "[I" ∈ wsL_law := es_ur6 _ (List.mem_of_getElem? (i := 23) rfl)
theorem es_u7_0 : Cond.fieldLink RX8 48 "ExternalSortModel" "toldRuns" "[I" ∈ wsL_law := es_ur7 _ (List.mem_of_getElem? (i := 0) rfl)
theorem es_u7_1 : Cond.fieldLink RX8 51 "ExternalSortModel" "newStart" "[I" ∈ wsL_law := es_ur7 _ (List.mem_of_getElem? (i := 1) rfl)
theorem es_u7_2 : Cond.fieldLink RX8 54 "ExternalSortModel" "place" "[I" ∈ wsL_law := es_ur7 _ (List.mem_of_getElem? (i := 2) rfl)
theorem es_u7_3 : Cond.fieldLink RX8 57 "ExternalSortModel" "end" "[I" ∈ wsL_law := es_ur7 _ (List.mem_of_getElem? (i := 3) rfl)
theorem es_u7_4 : Cond.fieldLink RX8 60 "ExternalSortModel" "leftKey" "[I" ∈ wsL_law := es_ur7 _ (List.mem_of_getElem? (i := 4) rfl)
theorem es_u7_5 : Cond.fieldLink RX8 63 "ExternalSortModel" "leftTag" "[I" ∈ wsL_law := es_ur7 _ (List.mem_of_getElem? (i := 5) rfl)
theorem es_u7_6 : Cond.fieldLink RX8 66 "ExternalSortModel" "rightKey" "[I" ∈ wsL_law := es_ur7 _ (List.mem_of_getElem? (i := 6) rfl)
theorem es_u7_7 : Cond.fieldLink RX8 69 "ExternalSortModel" "rightTag" "[I" ∈ wsL_law := es_ur7 _ (List.mem_of_getElem? (i := 7) rfl)
theorem es_u7_8 : Cond.fieldLink RX8 76 "ExternalSortModel" "pages" "I" ∈ wsL_law := es_ur7 _ (List.mem_of_getElem? (i := 8) rfl)
theorem es_u7_9 : Cond.fieldLink RX8 80 "ExternalSortModel" "records" "I" ∈ wsL_law := es_ur7 _ (List.mem_of_getElem? (i := 9) rfl)
theorem es_u7_11 : Cond.static yX8_within ∈ wsL_law := es_ur7 _ (List.mem_of_getElem? (i := 11) rfl)
theorem es_u7_12 : Cond.code yX8_within cX8_within 3 (some .int) ∈ wsL_law := es_ur7 _ (List.mem_of_getElem? (i := 12) rfl)
theorem es_u7_14 : Cond.instanceMethod yX7_append ∈ wsL_law := es_ur7 _ (List.mem_of_getElem? (i := 14) rfl)
theorem es_u7_15 : Cond.selects RX7 yX7_append yX7_append ∈ wsL_law := es_ur7 _ (List.mem_of_getElem? (i := 15) rfl)
theorem es_u7_16 : Cond.code yX7_append cX7_append 7 (some .int) ∈ wsL_law := es_ur7 _ (List.mem_of_getElem? (i := 16) rfl)
theorem es_u7_17 : Cond.methodLink RX7 71 yX7_isFile ∈ wsL_law := es_ur7 _ (List.mem_of_getElem? (i := 17) rfl)
theorem es_u7_18 : Cond.static yX7_isFile ∈ wsL_law := es_ur7 _ (List.mem_of_getElem? (i := 18) rfl)
theorem es_u7_19 : Cond.code yX7_isFile cX7_isFile 1 (some .boolean) ∈ wsL_law := es_ur7 _ (List.mem_of_getElem? (i := 19) rfl)
theorem es_u7_20 : Cond.methodLink RX7 75 yX0_slotOf ∈ wsL_law := es_ur7 _ (List.mem_of_getElem? (i := 20) rfl)
theorem es_u7_21 : Cond.instanceMethod yX0_slotOf ∈ wsL_law := es_ur7 _ (List.mem_of_getElem? (i := 21) rfl)
theorem es_u7_22 : Cond.selects RX0 yX0_slotOf yX0_slotOf ∈ wsL_law := es_ur7 _ (List.mem_of_getElem? (i := 22) rfl)
theorem es_u7_23 : Cond.code yX0_slotOf cX0_slotOf 2 (some .int) ∈ wsL_law := es_ur7 _ (List.mem_of_getElem? (i := 23) rfl)
theorem es_u8_0 : Cond.methodLink RX7 79 yX7_addPage ∈ wsL_law := es_ur8 _ (List.mem_of_getElem? (i := 0) rfl)
theorem es_u8_1 : Cond.instanceMethod yX7_addPage ∈ wsL_law := es_ur8 _ (List.mem_of_getElem? (i := 1) rfl)
theorem es_u8_2 : Cond.selects RX7 yX7_addPage yX7_addPage ∈ wsL_law := es_ur8 _ (List.mem_of_getElem? (i := 2) rfl)
theorem es_u8_3 : Cond.code yX7_addPage cX7_addPage 3 (some .int) ∈ wsL_law := es_ur8 _ (List.mem_of_getElem? (i := 3) rfl)
theorem es_u8_4 : Cond.methodLink RX7 183 yX0_take ∈ wsL_law := es_ur8 _ (List.mem_of_getElem? (i := 4) rfl)
theorem es_u8_5 : Cond.instanceMethod yX0_take ∈ wsL_law := es_ur8 _ (List.mem_of_getElem? (i := 5) rfl)
theorem es_u8_6 : Cond.selects RX0 yX0_take yX0_take ∈ wsL_law := es_ur8 _ (List.mem_of_getElem? (i := 6) rfl)
theorem es_u8_7 : Cond.code yX0_take cX0_take 4 (some .int) ∈ wsL_law := es_ur8 _ (List.mem_of_getElem? (i := 7) rfl)
theorem es_u8_8 : Cond.fieldLink RX0 59 "ExternalSort$Tally" "peak" "I" ∈ wsL_law := es_ur8 _ (List.mem_of_getElem? (i := 8) rfl)
theorem es_u8_9 : Cond.methodLink RX0 51 yX0_isPage ∈ wsL_law := es_ur8 _ (List.mem_of_getElem? (i := 9) rfl)
theorem es_u8_10 : Cond.instanceMethod yX0_isPage ∈ wsL_law := es_ur8 _ (List.mem_of_getElem? (i := 10) rfl)
theorem es_u8_11 : Cond.selects RX0 yX0_isPage yX0_isPage ∈ wsL_law := es_ur8 _ (List.mem_of_getElem? (i := 11) rfl)
theorem es_u8_12 : Cond.code yX0_isPage cX0_isPage 2 (some .boolean) ∈ wsL_law := es_ur8 _ (List.mem_of_getElem? (i := 12) rfl)
theorem es_u8_13 : Cond.methodLink RX7 82 yX0_pageOf ∈ wsL_law := es_ur8 _ (List.mem_of_getElem? (i := 13) rfl)
theorem es_u8_14 : Cond.instanceMethod yX0_pageOf ∈ wsL_law := es_ur8 _ (List.mem_of_getElem? (i := 14) rfl)
theorem es_u8_15 : Cond.selects RX0 yX0_pageOf yX0_pageOf ∈ wsL_law := es_ur8 _ (List.mem_of_getElem? (i := 15) rfl)
theorem es_u8_16 : Cond.code yX0_pageOf cX0_pageOf 6 (some .int) ∈ wsL_law := es_ur8 _ (List.mem_of_getElem? (i := 16) rfl)
theorem es_u8_17 : Cond.methodLink RX0 47 yX0_nextOf ∈ wsL_law := es_ur8 _ (List.mem_of_getElem? (i := 17) rfl)
theorem es_u8_18 : Cond.instanceMethod yX0_nextOf ∈ wsL_law := es_ur8 _ (List.mem_of_getElem? (i := 18) rfl)
theorem es_u8_19 : Cond.selects RX0 yX0_nextOf yX0_nextOf ∈ wsL_law := es_ur8 _ (List.mem_of_getElem? (i := 19) rfl)
theorem es_u8_20 : Cond.code yX0_nextOf cX0_nextOf 2 (some .int) ∈ wsL_law := es_ur8 _ (List.mem_of_getElem? (i := 20) rfl)
theorem es_u8_21 : Cond.methodLink RX7 186 yX0_link ∈ wsL_law := es_ur8 _ (List.mem_of_getElem? (i := 21) rfl)
theorem es_u8_22 : Cond.instanceMethod yX0_link ∈ wsL_law := es_ur8 _ (List.mem_of_getElem? (i := 22) rfl)
theorem es_u8_23 : Cond.selects RX0 yX0_link yX0_link ∈ wsL_law := es_ur8 _ (List.mem_of_getElem? (i := 23) rfl)
theorem es_u9_0 : Cond.code yX0_link cX0_link 3 none ∈ wsL_law := es_ur9 _ (List.mem_of_getElem? (i := 0) rfl)
theorem es_u9_1 : Cond.methodLink RX7 85 yX0_store ∈ wsL_law := es_ur9 _ (List.mem_of_getElem? (i := 1) rfl)
theorem es_u9_2 : Cond.instanceMethod yX0_store ∈ wsL_law := es_ur9 _ (List.mem_of_getElem? (i := 2) rfl)
theorem es_u9_3 : Cond.selects RX0 yX0_store yX0_store ∈ wsL_law := es_ur9 _ (List.mem_of_getElem? (i := 3) rfl)
theorem es_u9_4 : Cond.code yX0_store cX0_store 5 none ∈ wsL_law := es_ur9 _ (List.mem_of_getElem? (i := 4) rfl)
theorem es_u9_5 : Cond.methodLink RX0 55 yX0_isCell ∈ wsL_law := es_ur9 _ (List.mem_of_getElem? (i := 5) rfl)
theorem es_u9_6 : Cond.instanceMethod yX0_isCell ∈ wsL_law := es_ur9 _ (List.mem_of_getElem? (i := 6) rfl)
theorem es_u9_7 : Cond.selects RX0 yX0_isCell yX0_isCell ∈ wsL_law := es_ur9 _ (List.mem_of_getElem? (i := 7) rfl)
theorem es_u9_8 : Cond.code yX0_isCell cX0_isCell 3 (some .boolean) ∈ wsL_law := es_ur9 _ (List.mem_of_getElem? (i := 8) rfl)
theorem es_u9_10 : Cond.instanceMethod yX8_append ∈ wsL_law := es_ur9 _ (List.mem_of_getElem? (i := 10) rfl)
theorem es_u9_11 : Cond.selects RX8 yX8_append yX8_append ∈ wsL_law := es_ur9 _ (List.mem_of_getElem? (i := 11) rfl)
theorem es_u9_12 : Cond.code yX8_append cX8_append 4 (some .int) ∈ wsL_law := es_ur9 _ (List.mem_of_getElem? (i := 12) rfl)
theorem es_u9_13 : Cond.fieldLink RX8 91 "ExternalSortModel" "used" "I" ∈ wsL_law := es_ur9 _ (List.mem_of_getElem? (i := 13) rfl)
theorem es_u9_14 : Cond.methodLink RX8 87 yX8_isFile ∈ wsL_law := es_ur9 _ (List.mem_of_getElem? (i := 14) rfl)
theorem es_u9_15 : Cond.static yX8_isFile ∈ wsL_law := es_ur9 _ (List.mem_of_getElem? (i := 15) rfl)
theorem es_u9_16 : Cond.code yX8_isFile cX8_isFile 1 (some .boolean) ∈ wsL_law := es_ur9 _ (List.mem_of_getElem? (i := 16) rfl)
theorem es_u9_17 : Cond.methodLink RX8 83 yX8_in ∈ wsL_law := es_ur9 _ (List.mem_of_getElem? (i := 17) rfl)
theorem es_u9_18 : Cond.static yX8_in ∈ wsL_law := es_ur9 _ (List.mem_of_getElem? (i := 18) rfl)
theorem es_u9_19 : Cond.code yX8_in cX8_in 3 (some .boolean) ∈ wsL_law := es_ur9 _ (List.mem_of_getElem? (i := 19) rfl)
theorem es_u9_21 : Cond.instanceMethod yX7_drop ∈ wsL_law := es_ur9 _ (List.mem_of_getElem? (i := 21) rfl)
theorem es_u9_22 : Cond.selects RX7 yX7_drop yX7_drop ∈ wsL_law := es_ur9 _ (List.mem_of_getElem? (i := 22) rfl)
theorem es_u9_23 : Cond.code yX7_drop cX7_drop 2 (some .int) ∈ wsL_law := es_ur9 _ (List.mem_of_getElem? (i := 23) rfl)
theorem es_u10_0 : Cond.methodLink RX7 89 yX0_releaseAll ∈ wsL_law := es_ur10 _ (List.mem_of_getElem? (i := 0) rfl)
theorem es_u10_1 : Cond.instanceMethod yX0_releaseAll ∈ wsL_law := es_ur10 _ (List.mem_of_getElem? (i := 1) rfl)
theorem es_u10_2 : Cond.selects RX0 yX0_releaseAll yX0_releaseAll ∈ wsL_law := es_ur10 _ (List.mem_of_getElem? (i := 2) rfl)
theorem es_u10_3 : Cond.code yX0_releaseAll cX0_releaseAll 4 (some .int) ∈ wsL_law := es_ur10 _ (List.mem_of_getElem? (i := 3) rfl)
theorem es_u10_4 : Cond.methodLink RX0 64 yX0_release ∈ wsL_law := es_ur10 _ (List.mem_of_getElem? (i := 4) rfl)
theorem es_u10_5 : Cond.instanceMethod yX0_release ∈ wsL_law := es_ur10 _ (List.mem_of_getElem? (i := 5) rfl)
theorem es_u10_6 : Cond.selects RX0 yX0_release yX0_release ∈ wsL_law := es_ur10 _ (List.mem_of_getElem? (i := 6) rfl)
theorem es_u10_7 : Cond.code yX0_release cX0_release 2 none ∈ wsL_law := es_ur10 _ (List.mem_of_getElem? (i := 7) rfl)
theorem es_u10_9 : Cond.instanceMethod yX8_drop ∈ wsL_law := es_ur10 _ (List.mem_of_getElem? (i := 9) rfl)
theorem es_u10_10 : Cond.selects RX8 yX8_drop yX8_drop ∈ wsL_law := es_ur10 _ (List.mem_of_getElem? (i := 10) rfl)
theorem es_u10_11 : Cond.code yX8_drop cX8_drop 3 (some .int) ∈ wsL_law := es_ur10 _ (List.mem_of_getElem? (i := 11) rfl)
theorem es_u10_12 : Cond.methodLink RX8 94 yX8_pagesOf ∈ wsL_law := es_ur10 _ (List.mem_of_getElem? (i := 12) rfl)
theorem es_u10_13 : Cond.instanceMethod yX8_pagesOf ∈ wsL_law := es_ur10 _ (List.mem_of_getElem? (i := 13) rfl)
theorem es_u10_14 : Cond.selects RX8 yX8_pagesOf yX8_pagesOf ∈ wsL_law := es_ur10 _ (List.mem_of_getElem? (i := 14) rfl)
theorem es_u10_15 : Cond.code yX8_pagesOf cX8_pagesOf 2 (some .int) ∈ wsL_law := es_ur10 _ (List.mem_of_getElem? (i := 15) rfl)
theorem es_u10_17 : Cond.instanceMethod yX7_sort ∈ wsL_law := es_ur10 _ (List.mem_of_getElem? (i := 17) rfl)
theorem es_u10_18 : Cond.selects RX7 yX7_sort yX7_sort ∈ wsL_law := es_ur10 _ (List.mem_of_getElem? (i := 18) rfl)
theorem es_u10_19 : Cond.code yX7_sort cX7_sort 5 (some .int) ∈ wsL_law := es_ur10 _ (List.mem_of_getElem? (i := 19) rfl)
theorem es_u10_20 : Cond.methodLink RX7 92 yX7_isBudget ∈ wsL_law := es_ur10 _ (List.mem_of_getElem? (i := 20) rfl)
theorem es_u10_21 : Cond.static yX7_isBudget ∈ wsL_law := es_ur10 _ (List.mem_of_getElem? (i := 21) rfl)
theorem es_u10_22 : Cond.code yX7_isBudget cX7_isBudget 1 (some .boolean) ∈ wsL_law := es_ur10 _ (List.mem_of_getElem? (i := 22) rfl)
theorem es_u10_23 : Cond.methodLink RX7 95 yX7_isMode ∈ wsL_law := es_ur10 _ (List.mem_of_getElem? (i := 23) rfl)
theorem es_u11_0 : Cond.static yX7_isMode ∈ wsL_law := es_ur11 _ (List.mem_of_getElem? (i := 0) rfl)
theorem es_u11_1 : Cond.code yX7_isMode cX7_isMode 1 (some .boolean) ∈ wsL_law := es_ur11 _ (List.mem_of_getElem? (i := 1) rfl)
theorem es_u11_2 : Cond.methodLink RX7 98 yX7_begin ∈ wsL_law := es_ur11 _ (List.mem_of_getElem? (i := 2) rfl)
theorem es_u11_3 : Cond.instanceMethod yX7_begin ∈ wsL_law := es_ur11 _ (List.mem_of_getElem? (i := 3) rfl)
theorem es_u11_4 : Cond.selects RX7 yX7_begin yX7_begin ∈ wsL_law := es_ur11 _ (List.mem_of_getElem? (i := 4) rfl)
theorem es_u11_5 : Cond.code yX7_begin cX7_begin 4 none ∈ wsL_law := es_ur11 _ (List.mem_of_getElem? (i := 5) rfl)
theorem es_u11_6 : Cond.methodLink RX7 190 yX0_usedPages ∈ wsL_law := es_ur11 _ (List.mem_of_getElem? (i := 6) rfl)
theorem es_u11_7 : Cond.instanceMethod yX0_usedPages ∈ wsL_law := es_ur11 _ (List.mem_of_getElem? (i := 7) rfl)
theorem es_u11_8 : Cond.selects RX0 yX0_usedPages yX0_usedPages ∈ wsL_law := es_ur11 _ (List.mem_of_getElem? (i := 8) rfl)
theorem es_u11_9 : Cond.code yX0_usedPages cX0_usedPages 1 (some .int) ∈ wsL_law := es_ur11 _ (List.mem_of_getElem? (i := 9) rfl)
theorem es_u11_10 : Cond.methodLink RX7 193 yX6_begin ∈ wsL_law := es_ur11 _ (List.mem_of_getElem? (i := 10) rfl)
theorem es_u11_11 : Cond.instanceMethod yX6_begin ∈ wsL_law := es_ur11 _ (List.mem_of_getElem? (i := 11) rfl)
theorem es_u11_12 : Cond.selects RX6 yX6_begin yX6_begin ∈ wsL_law := es_ur11 _ (List.mem_of_getElem? (i := 12) rfl)
theorem es_u11_13 : Cond.code yX6_begin cX6_begin 2 none ∈ wsL_law := es_ur11 _ (List.mem_of_getElem? (i := 13) rfl)
theorem es_u11_14 : Cond.fieldLink RX6 21 "ExternalSort$Tally" "reads" "I" ∈ wsL_law := es_ur11 _ (List.mem_of_getElem? (i := 14) rfl)
theorem es_u11_15 : Cond.fieldLink RX6 25 "ExternalSort$Tally" "writes" "I" ∈ wsL_law := es_ur11 _ (List.mem_of_getElem? (i := 15) rfl)
theorem es_u11_16 : Cond.fieldLink RX6 28 "ExternalSort$Tally" "runs" "I" ∈ wsL_law := es_ur11 _ (List.mem_of_getElem? (i := 16) rfl)
theorem es_u11_17 : Cond.fieldLink RX6 31 "ExternalSort$Tally" "passes" "I" ∈ wsL_law := es_ur11 _ (List.mem_of_getElem? (i := 17) rfl)
theorem es_u11_18 : Cond.fieldLink RX6 34 "ExternalSort$Tally" "peak" "I" ∈ wsL_law := es_ur11 _ (List.mem_of_getElem? (i := 18) rfl)
theorem es_u11_19 : Cond.methodLink RX7 195 yX5_prepare ∈ wsL_law := es_ur11 _ (List.mem_of_getElem? (i := 19) rfl)
theorem es_u11_20 : Cond.instanceMethod yX5_prepare ∈ wsL_law := es_ur11 _ (List.mem_of_getElem? (i := 20) rfl)
theorem es_u11_21 : Cond.selects RX5 yX5_prepare yX5_prepare ∈ wsL_law := es_ur11 _ (List.mem_of_getElem? (i := 21) rfl)
theorem es_u11_22 : Cond.code yX5_prepare cX5_prepare 4 none ∈ wsL_law := es_ur11 _ (List.mem_of_getElem? (i := 22) rfl)
theorem es_u11_23 : Cond.fieldLink RX5 59 "ExternalSort$Sorter" "budget" "I" ∈ wsL_law := es_ur11 _ (List.mem_of_getElem? (i := 23) rfl)
theorem es_u12_0 : Cond.fieldLink RX5 62 "ExternalSort$Sorter" "mode" "I" ∈ wsL_law := es_ur12 _ (List.mem_of_getElem? (i := 0) rfl)
theorem es_u12_1 : Cond.fieldLink RX5 65 "ExternalSort$Sorter" "once" "Z" ∈ wsL_law := es_ur12 _ (List.mem_of_getElem? (i := 1) rfl)
theorem es_u12_2 : Cond.methodLink RX7 102 yX5_arrange ∈ wsL_law := es_ur12 _ (List.mem_of_getElem? (i := 2) rfl)
theorem es_u12_3 : Cond.instanceMethod yX5_arrange ∈ wsL_law := es_ur12 _ (List.mem_of_getElem? (i := 3) rfl)
theorem es_u12_4 : Cond.selects RX5 yX5_arrange yX5_arrange ∈ wsL_law := es_ur12 _ (List.mem_of_getElem? (i := 4) rfl)
theorem es_u12_5 : Cond.code yX5_arrange cX5_arrange 4 (some .boolean) ∈ wsL_law := es_ur12 _ (List.mem_of_getElem? (i := 5) rfl)
theorem es_u12_6 : Cond.fieldLink RX5 69 "ExternalSort$Sorter" "runs" "I" ∈ wsL_law := es_ur12 _ (List.mem_of_getElem? (i := 6) rfl)
theorem es_u12_7 : Cond.fieldLink RX5 80 "ExternalSort$Sorter" "resultHead" "I" ∈ wsL_law := es_ur12 _ (List.mem_of_getElem? (i := 7) rfl)
theorem es_u12_8 : Cond.fieldLink RX5 83 "ExternalSort$Sorter" "resultCount" "I" ∈ wsL_law := es_ur12 _ (List.mem_of_getElem? (i := 8) rfl)
theorem es_u12_9 : Cond.methodLink RX5 72 yX5_makeRuns ∈ wsL_law := es_ur12 _ (List.mem_of_getElem? (i := 9) rfl)
theorem es_u12_10 : Cond.instanceMethod yX5_makeRuns ∈ wsL_law := es_ur12 _ (List.mem_of_getElem? (i := 10) rfl)
theorem es_u12_11 : Cond.selects RX5 yX5_makeRuns yX5_makeRuns ∈ wsL_law := es_ur12 _ (List.mem_of_getElem? (i := 11) rfl)
theorem es_u12_12 : Cond.code yX5_makeRuns cX5_makeRuns 7 (some .boolean) ∈ wsL_law := es_ur12 _ (List.mem_of_getElem? (i := 12) rfl)
theorem es_u12_13 : Cond.methodLink RX5 86 yX5_fillMemory ∈ wsL_law := es_ur12 _ (List.mem_of_getElem? (i := 13) rfl)
theorem es_u12_14 : Cond.instanceMethod yX5_fillMemory ∈ wsL_law := es_ur12 _ (List.mem_of_getElem? (i := 14) rfl)
theorem es_u12_15 : Cond.selects RX5 yX5_fillMemory yX5_fillMemory ∈ wsL_law := es_ur12 _ (List.mem_of_getElem? (i := 15) rfl)
theorem es_u12_16 : Cond.code yX5_fillMemory cX5_fillMemory 5 (some .int) ∈ wsL_law := es_ur12 _ (List.mem_of_getElem? (i := 16) rfl)
theorem es_u12_17 : Cond.methodLink RX5 128 Lib.Math.min.name ∈ wsL_law := es_ur12 _ (List.mem_of_getElem? (i := 17) rfl)
theorem es_u12_18 : Cond.methodLink RX5 125 yX5_room ∈ wsL_law := es_ur12 _ (List.mem_of_getElem? (i := 18) rfl)
theorem es_u12_19 : Cond.instanceMethod yX5_room ∈ wsL_law := es_ur12 _ (List.mem_of_getElem? (i := 19) rfl)
theorem es_u12_20 : Cond.selects RX5 yX5_room yX5_room ∈ wsL_law := es_ur12 _ (List.mem_of_getElem? (i := 20) rfl)
theorem es_u12_21 : Cond.code yX5_room cX5_room 1 (some .int) ∈ wsL_law := es_ur12 _ (List.mem_of_getElem? (i := 21) rfl)
theorem es_u12_22 : Cond.methodLink RX5 131 yX1_open ∈ wsL_law := es_ur12 _ (List.mem_of_getElem? (i := 22) rfl)
theorem es_u12_23 : Cond.instanceMethod yX1_open ∈ wsL_law := es_ur12 _ (List.mem_of_getElem? (i := 23) rfl)
theorem es_u13_0 : Cond.selects RX1 yX1_open yX1_open ∈ wsL_law := es_ur13 _ (List.mem_of_getElem? (i := 0) rfl)
theorem es_u13_1 : Cond.code yX1_open cX1_open 4 none ∈ wsL_law := es_ur13 _ (List.mem_of_getElem? (i := 1) rfl)
theorem es_u13_2 : Cond.methodLink RX5 133 yX3_begin ∈ wsL_law := es_ur13 _ (List.mem_of_getElem? (i := 2) rfl)
theorem es_u13_3 : Cond.instanceMethod yX3_begin ∈ wsL_law := es_ur13 _ (List.mem_of_getElem? (i := 3) rfl)
theorem es_u13_4 : Cond.selects RX3 yX3_begin yX3_begin ∈ wsL_law := es_ur13 _ (List.mem_of_getElem? (i := 4) rfl)
theorem es_u13_5 : Cond.code yX3_begin cX3_begin 3 none ∈ wsL_law := es_ur13 _ (List.mem_of_getElem? (i := 5) rfl)
theorem es_u13_6 : Cond.methodLink RX3 35 Lib.Math.min.name ∈ wsL_law := es_ur13 _ (List.mem_of_getElem? (i := 6) rfl)
theorem es_u13_7 : Cond.fieldLink RX3 38 "ExternalSort$LoserTree" "leaves" "I" ∈ wsL_law := es_ur13 _ (List.mem_of_getElem? (i := 7) rfl)
theorem es_u13_8 : Cond.fieldLink RX3 42 "ExternalSort$LoserTree" "mode" "I" ∈ wsL_law := es_ur13 _ (List.mem_of_getElem? (i := 8) rfl)
theorem es_u13_9 : Cond.methodLink RX5 137 yX5_takeInto ∈ wsL_law := es_ur13 _ (List.mem_of_getElem? (i := 9) rfl)
theorem es_u13_10 : Cond.instanceMethod yX5_takeInto ∈ wsL_law := es_ur13 _ (List.mem_of_getElem? (i := 10) rfl)
theorem es_u13_11 : Cond.selects RX5 yX5_takeInto yX5_takeInto ∈ wsL_law := es_ur13 _ (List.mem_of_getElem? (i := 11) rfl)
theorem es_u13_12 : Cond.code yX5_takeInto cX5_takeInto 4 none ∈ wsL_law := es_ur13 _ (List.mem_of_getElem? (i := 12) rfl)
theorem es_u13_13 : Cond.methodLink RX5 161 yX1_isUsedUp ∈ wsL_law := es_ur13 _ (List.mem_of_getElem? (i := 13) rfl)
theorem es_u13_14 : Cond.instanceMethod yX1_isUsedUp ∈ wsL_law := es_ur13 _ (List.mem_of_getElem? (i := 14) rfl)
theorem es_u13_15 : Cond.selects RX1 yX1_isUsedUp yX1_isUsedUp ∈ wsL_law := es_ur13 _ (List.mem_of_getElem? (i := 15) rfl)
theorem es_u13_16 : Cond.code yX1_isUsedUp cX1_isUsedUp 2 (some .boolean) ∈ wsL_law := es_ur13 _ (List.mem_of_getElem? (i := 16) rfl)
theorem es_u13_17 : Cond.methodLink RX5 164 yX1_readPage ∈ wsL_law := es_ur13 _ (List.mem_of_getElem? (i := 17) rfl)
theorem es_u13_18 : Cond.instanceMethod yX1_readPage ∈ wsL_law := es_ur13 _ (List.mem_of_getElem? (i := 18) rfl)
theorem es_u13_19 : Cond.selects RX1 yX1_readPage yX1_readPage ∈ wsL_law := es_ur13 _ (List.mem_of_getElem? (i := 19) rfl)
theorem es_u13_20 : Cond.code yX1_readPage cX1_readPage 6 (some .int) ∈ wsL_law := es_ur13 _ (List.mem_of_getElem? (i := 20) rfl)
theorem es_u13_21 : Cond.methodLink RX1 40 Lib.Math.min.name ∈ wsL_law := es_ur13 _ (List.mem_of_getElem? (i := 21) rfl)
theorem es_u13_22 : Cond.fieldLink RX1 56 "ExternalSort$Disk" "tally" "LExternalSort$Tally;" ∈ wsL_law := es_ur13 _ (List.mem_of_getElem? (i := 22) rfl)
theorem es_u13_23 : Cond.fieldLink RX1 60 "ExternalSort$Tally" "reads" "I" ∈ wsL_law := es_ur13 _ (List.mem_of_getElem? (i := 23) rfl)
theorem es_u14_0 : Cond.methodLink RX1 46 yX0_keyAt ∈ wsL_law := es_ur14 _ (List.mem_of_getElem? (i := 0) rfl)
theorem es_u14_1 : Cond.instanceMethod yX0_keyAt ∈ wsL_law := es_ur14 _ (List.mem_of_getElem? (i := 1) rfl)
theorem es_u14_2 : Cond.selects RX0 yX0_keyAt yX0_keyAt ∈ wsL_law := es_ur14 _ (List.mem_of_getElem? (i := 2) rfl)
theorem es_u14_3 : Cond.code yX0_keyAt cX0_keyAt 3 (some .int) ∈ wsL_law := es_ur14 _ (List.mem_of_getElem? (i := 3) rfl)
theorem es_u14_4 : Cond.methodLink RX1 49 yX0_tagAt ∈ wsL_law := es_ur14 _ (List.mem_of_getElem? (i := 4) rfl)
theorem es_u14_5 : Cond.instanceMethod yX0_tagAt ∈ wsL_law := es_ur14 _ (List.mem_of_getElem? (i := 5) rfl)
theorem es_u14_6 : Cond.selects RX0 yX0_tagAt yX0_tagAt ∈ wsL_law := es_ur14 _ (List.mem_of_getElem? (i := 6) rfl)
theorem es_u14_7 : Cond.code yX0_tagAt cX0_tagAt 3 (some .int) ∈ wsL_law := es_ur14 _ (List.mem_of_getElem? (i := 7) rfl)
theorem es_u14_8 : Cond.methodLink RX1 52 yX0_nextOf ∈ wsL_law := es_ur14 _ (List.mem_of_getElem? (i := 8) rfl)
theorem es_u14_9 : Cond.methodLink RX5 167 yX1_keyOf ∈ wsL_law := es_ur14 _ (List.mem_of_getElem? (i := 9) rfl)
theorem es_u14_10 : Cond.instanceMethod yX1_keyOf ∈ wsL_law := es_ur14 _ (List.mem_of_getElem? (i := 10) rfl)
theorem es_u14_11 : Cond.selects RX1 yX1_keyOf yX1_keyOf ∈ wsL_law := es_ur14 _ (List.mem_of_getElem? (i := 11) rfl)
theorem es_u14_12 : Cond.code yX1_keyOf cX1_keyOf 3 (some .int) ∈ wsL_law := es_ur14 _ (List.mem_of_getElem? (i := 12) rfl)
theorem es_u14_13 : Cond.methodLink RX1 65 yX1_isUsedUp ∈ wsL_law := es_ur14 _ (List.mem_of_getElem? (i := 13) rfl)
theorem es_u14_14 : Cond.methodLink RX5 168 yX1_tagOf ∈ wsL_law := es_ur14 _ (List.mem_of_getElem? (i := 14) rfl)
theorem es_u14_15 : Cond.instanceMethod yX1_tagOf ∈ wsL_law := es_ur14 _ (List.mem_of_getElem? (i := 15) rfl)
theorem es_u14_16 : Cond.selects RX1 yX1_tagOf yX1_tagOf ∈ wsL_law := es_ur14 _ (List.mem_of_getElem? (i := 16) rfl)
theorem es_u14_17 : Cond.code yX1_tagOf cX1_tagOf 3 (some .int) ∈ wsL_law := es_ur14 _ (List.mem_of_getElem? (i := 17) rfl)
theorem es_u14_18 : Cond.methodLink RX5 157 yX3_enter ∈ wsL_law := es_ur14 _ (List.mem_of_getElem? (i := 18) rfl)
theorem es_u14_19 : Cond.instanceMethod yX3_enter ∈ wsL_law := es_ur14 _ (List.mem_of_getElem? (i := 19) rfl)
theorem es_u14_20 : Cond.selects RX3 yX3_enter yX3_enter ∈ wsL_law := es_ur14 _ (List.mem_of_getElem? (i := 20) rfl)
theorem es_u14_21 : Cond.code yX3_enter cX3_enter 6 none ∈ wsL_law := es_ur14 _ (List.mem_of_getElem? (i := 21) rfl)
theorem es_u14_22 : Cond.methodLink RX3 45 yX3_isLeaf ∈ wsL_law := es_ur14 _ (List.mem_of_getElem? (i := 22) rfl)
theorem es_u14_23 : Cond.instanceMethod yX3_isLeaf ∈ wsL_law := es_ur14 _ (List.mem_of_getElem? (i := 23) rfl)
theorem es_u15_0 : Cond.selects RX3 yX3_isLeaf yX3_isLeaf ∈ wsL_law := es_ur15 _ (List.mem_of_getElem? (i := 0) rfl)
theorem es_u15_1 : Cond.code yX3_isLeaf cX3_isLeaf 2 (some .boolean) ∈ wsL_law := es_ur15 _ (List.mem_of_getElem? (i := 1) rfl)
theorem es_u15_2 : Cond.methodLink RX5 169 yX1_step ∈ wsL_law := es_ur15 _ (List.mem_of_getElem? (i := 2) rfl)
theorem es_u15_3 : Cond.instanceMethod yX1_step ∈ wsL_law := es_ur15 _ (List.mem_of_getElem? (i := 3) rfl)
theorem es_u15_4 : Cond.selects RX1 yX1_step yX1_step ∈ wsL_law := es_ur15 _ (List.mem_of_getElem? (i := 4) rfl)
theorem es_u15_5 : Cond.code yX1_step cX1_step 2 none ∈ wsL_law := es_ur15 _ (List.mem_of_getElem? (i := 5) rfl)
theorem es_u15_6 : Cond.methodLink RX5 89 yX3_build ∈ wsL_law := es_ur15 _ (List.mem_of_getElem? (i := 6) rfl)
theorem es_u15_7 : Cond.instanceMethod yX3_build ∈ wsL_law := es_ur15 _ (List.mem_of_getElem? (i := 7) rfl)
theorem es_u15_8 : Cond.selects RX3 yX3_build yX3_build ∈ wsL_law := es_ur15 _ (List.mem_of_getElem? (i := 8) rfl)
theorem es_u15_9 : Cond.code yX3_build cX3_build 2 none ∈ wsL_law := es_ur15 _ (List.mem_of_getElem? (i := 9) rfl)
theorem es_u15_10 : Cond.methodLink RX3 50 yX3_climb ∈ wsL_law := es_ur15 _ (List.mem_of_getElem? (i := 10) rfl)
theorem es_u15_11 : Cond.instanceMethod yX3_climb ∈ wsL_law := es_ur15 _ (List.mem_of_getElem? (i := 11) rfl)
theorem es_u15_12 : Cond.selects RX3 yX3_climb yX3_climb ∈ wsL_law := es_ur15 _ (List.mem_of_getElem? (i := 12) rfl)
theorem es_u15_13 : Cond.code yX3_climb cX3_climb 5 none ∈ wsL_law := es_ur15 _ (List.mem_of_getElem? (i := 13) rfl)
theorem es_u15_14 : Cond.methodLink RX3 54 yX3_beats ∈ wsL_law := es_ur15 _ (List.mem_of_getElem? (i := 14) rfl)
theorem es_u15_15 : Cond.instanceMethod yX3_beats ∈ wsL_law := es_ur15 _ (List.mem_of_getElem? (i := 15) rfl)
theorem es_u15_16 : Cond.selects RX3 yX3_beats yX3_beats ∈ wsL_law := es_ur15 _ (List.mem_of_getElem? (i := 16) rfl)
theorem es_u15_17 : Cond.code yX3_beats cX3_beats 4 (some .boolean) ∈ wsL_law := es_ur15 _ (List.mem_of_getElem? (i := 17) rfl)
theorem es_u15_18 : Cond.static yX7_inOrder ∈ wsL_law := es_ur15 _ (List.mem_of_getElem? (i := 18) rfl)
theorem es_u15_19 : Cond.code yX7_inOrder cX7_inOrder 6 (some .int) ∈ wsL_law := es_ur15 _ (List.mem_of_getElem? (i := 19) rfl)
theorem es_u15_20 : Cond.methodLink RX5 92 yX4_open ∈ wsL_law := es_ur15 _ (List.mem_of_getElem? (i := 20) rfl)
theorem es_u15_21 : Cond.instanceMethod yX4_open ∈ wsL_law := es_ur15 _ (List.mem_of_getElem? (i := 21) rfl)
theorem es_u15_22 : Cond.selects RX4 yX4_open yX4_open ∈ wsL_law := es_ur15 _ (List.mem_of_getElem? (i := 22) rfl)
theorem es_u15_23 : Cond.code yX4_open cX4_open 2 none ∈ wsL_law := es_ur15 _ (List.mem_of_getElem? (i := 23) rfl)
theorem es_u16_0 : Cond.fieldLink RX4 28 "ExternalSort$Output" "once" "Z" ∈ wsL_law := es_ur16 _ (List.mem_of_getElem? (i := 0) rfl)
theorem es_u16_1 : Cond.fieldLink RX4 32 "ExternalSort$Output" "head" "I" ∈ wsL_law := es_ur16 _ (List.mem_of_getElem? (i := 1) rfl)
theorem es_u16_2 : Cond.fieldLink RX4 35 "ExternalSort$Output" "tail" "I" ∈ wsL_law := es_ur16 _ (List.mem_of_getElem? (i := 2) rfl)
theorem es_u16_3 : Cond.fieldLink RX4 38 "ExternalSort$Output" "count" "I" ∈ wsL_law := es_ur16 _ (List.mem_of_getElem? (i := 3) rfl)
theorem es_u16_4 : Cond.fieldLink RX4 41 "ExternalSort$Output" "filled" "I" ∈ wsL_law := es_ur16 _ (List.mem_of_getElem? (i := 4) rfl)
theorem es_u16_5 : Cond.methodLink RX5 98 yX3_winner ∈ wsL_law := es_ur16 _ (List.mem_of_getElem? (i := 5) rfl)
theorem es_u16_6 : Cond.instanceMethod yX3_winner ∈ wsL_law := es_ur16 _ (List.mem_of_getElem? (i := 6) rfl)
theorem es_u16_7 : Cond.selects RX3 yX3_winner yX3_winner ∈ wsL_law := es_ur16 _ (List.mem_of_getElem? (i := 7) rfl)
theorem es_u16_8 : Cond.code yX3_winner cX3_winner 1 (some .int) ∈ wsL_law := es_ur16 _ (List.mem_of_getElem? (i := 8) rfl)
theorem es_u16_9 : Cond.methodLink RX5 102 yX3_roundOf ∈ wsL_law := es_ur16 _ (List.mem_of_getElem? (i := 9) rfl)
theorem es_u16_10 : Cond.instanceMethod yX3_roundOf ∈ wsL_law := es_ur16 _ (List.mem_of_getElem? (i := 10) rfl)
theorem es_u16_11 : Cond.selects RX3 yX3_roundOf yX3_roundOf ∈ wsL_law := es_ur16 _ (List.mem_of_getElem? (i := 11) rfl)
theorem es_u16_12 : Cond.code yX3_roundOf cX3_roundOf 2 (some .int) ∈ wsL_law := es_ur16 _ (List.mem_of_getElem? (i := 12) rfl)
theorem es_u16_13 : Cond.constant RX3 49 (2147483647) ∈ wsL_law := es_ur16 _ (List.mem_of_getElem? (i := 13) rfl)
theorem es_u16_14 : Cond.methodLink RX5 106 yX5_endRun ∈ wsL_law := es_ur16 _ (List.mem_of_getElem? (i := 14) rfl)
theorem es_u16_15 : Cond.instanceMethod yX5_endRun ∈ wsL_law := es_ur16 _ (List.mem_of_getElem? (i := 15) rfl)
theorem es_u16_16 : Cond.selects RX5 yX5_endRun yX5_endRun ∈ wsL_law := es_ur16 _ (List.mem_of_getElem? (i := 16) rfl)
theorem es_u16_17 : Cond.code yX5_endRun cX5_endRun 1 (some .boolean) ∈ wsL_law := es_ur16 _ (List.mem_of_getElem? (i := 17) rfl)
theorem es_u16_18 : Cond.fieldLink RX5 175 "ExternalSort$Disk" "tally" "LExternalSort$Tally;" ∈ wsL_law := es_ur16 _ (List.mem_of_getElem? (i := 18) rfl)
theorem es_u16_19 : Cond.fieldLink RX5 179 "ExternalSort$Output" "count" "I" ∈ wsL_law := es_ur16 _ (List.mem_of_getElem? (i := 19) rfl)
theorem es_u16_20 : Cond.fieldLink RX5 187 "ExternalSort$Output" "head" "I" ∈ wsL_law := es_ur16 _ (List.mem_of_getElem? (i := 20) rfl)
theorem es_u16_21 : Cond.methodLink RX5 172 yX4_close ∈ wsL_law := es_ur16 _ (List.mem_of_getElem? (i := 21) rfl)
theorem es_u16_22 : Cond.instanceMethod yX4_close ∈ wsL_law := es_ur16 _ (List.mem_of_getElem? (i := 22) rfl)
theorem es_u16_23 : Cond.selects RX4 yX4_close yX4_close ∈ wsL_law := es_ur16 _ (List.mem_of_getElem? (i := 23) rfl)
theorem es_u17_0 : Cond.code yX4_close cX4_close 1 (some .boolean) ∈ wsL_law := es_ur17 _ (List.mem_of_getElem? (i := 0) rfl)
theorem es_u17_1 : Cond.methodLink RX4 50 yX4_writePage ∈ wsL_law := es_ur17 _ (List.mem_of_getElem? (i := 1) rfl)
theorem es_u17_2 : Cond.instanceMethod yX4_writePage ∈ wsL_law := es_ur17 _ (List.mem_of_getElem? (i := 2) rfl)
theorem es_u17_3 : Cond.selects RX4 yX4_writePage yX4_writePage ∈ wsL_law := es_ur17 _ (List.mem_of_getElem? (i := 3) rfl)
theorem es_u17_4 : Cond.code yX4_writePage cX4_writePage 3 (some .boolean) ∈ wsL_law := es_ur17 _ (List.mem_of_getElem? (i := 4) rfl)
theorem es_u17_5 : Cond.fieldLink RX4 66 "ExternalSort$Disk" "tally" "LExternalSort$Tally;" ∈ wsL_law := es_ur17 _ (List.mem_of_getElem? (i := 5) rfl)
theorem es_u17_6 : Cond.fieldLink RX4 70 "ExternalSort$Tally" "writes" "I" ∈ wsL_law := es_ur17 _ (List.mem_of_getElem? (i := 6) rfl)
theorem es_u17_7 : Cond.methodLink RX4 54 yX0_take ∈ wsL_law := es_ur17 _ (List.mem_of_getElem? (i := 7) rfl)
theorem es_u17_8 : Cond.methodLink RX4 58 yX0_store ∈ wsL_law := es_ur17 _ (List.mem_of_getElem? (i := 8) rfl)
theorem es_u17_9 : Cond.methodLink RX4 62 yX0_link ∈ wsL_law := es_ur17 _ (List.mem_of_getElem? (i := 9) rfl)
theorem es_u17_10 : Cond.methodLink RX5 182 yX6_addRun ∈ wsL_law := es_ur17 _ (List.mem_of_getElem? (i := 10) rfl)
theorem es_u17_11 : Cond.instanceMethod yX6_addRun ∈ wsL_law := es_ur17 _ (List.mem_of_getElem? (i := 11) rfl)
theorem es_u17_12 : Cond.selects RX6 yX6_addRun yX6_addRun ∈ wsL_law := es_ur17 _ (List.mem_of_getElem? (i := 12) rfl)
theorem es_u17_13 : Cond.code yX6_addRun cX6_addRun 2 none ∈ wsL_law := es_ur17 _ (List.mem_of_getElem? (i := 13) rfl)
theorem es_u17_14 : Cond.methodLink RX5 190 yX5_keepRun ∈ wsL_law := es_ur17 _ (List.mem_of_getElem? (i := 14) rfl)
theorem es_u17_15 : Cond.instanceMethod yX5_keepRun ∈ wsL_law := es_ur17 _ (List.mem_of_getElem? (i := 15) rfl)
theorem es_u17_16 : Cond.selects RX5 yX5_keepRun yX5_keepRun ∈ wsL_law := es_ur17 _ (List.mem_of_getElem? (i := 16) rfl)
theorem es_u17_17 : Cond.code yX5_keepRun cX5_keepRun 4 none ∈ wsL_law := es_ur17 _ (List.mem_of_getElem? (i := 17) rfl)
theorem es_u17_18 : Cond.methodLink RX5 109 yX3_keyOf ∈ wsL_law := es_ur17 _ (List.mem_of_getElem? (i := 18) rfl)
theorem es_u17_19 : Cond.instanceMethod yX3_keyOf ∈ wsL_law := es_ur17 _ (List.mem_of_getElem? (i := 19) rfl)
theorem es_u17_20 : Cond.selects RX3 yX3_keyOf yX3_keyOf ∈ wsL_law := es_ur17 _ (List.mem_of_getElem? (i := 20) rfl)
theorem es_u17_21 : Cond.code yX3_keyOf cX3_keyOf 2 (some .int) ∈ wsL_law := es_ur17 _ (List.mem_of_getElem? (i := 21) rfl)
theorem es_u17_22 : Cond.methodLink RX5 112 yX3_tagOf ∈ wsL_law := es_ur17 _ (List.mem_of_getElem? (i := 22) rfl)
theorem es_u17_23 : Cond.instanceMethod yX3_tagOf ∈ wsL_law := es_ur17 _ (List.mem_of_getElem? (i := 23) rfl)
theorem es_u18_0 : Cond.selects RX3 yX3_tagOf yX3_tagOf ∈ wsL_law := es_ur18 _ (List.mem_of_getElem? (i := 0) rfl)
theorem es_u18_1 : Cond.code yX3_tagOf cX3_tagOf 2 (some .int) ∈ wsL_law := es_ur18 _ (List.mem_of_getElem? (i := 1) rfl)
theorem es_u18_2 : Cond.methodLink RX5 115 yX4_put ∈ wsL_law := es_ur18 _ (List.mem_of_getElem? (i := 2) rfl)
theorem es_u18_3 : Cond.instanceMethod yX4_put ∈ wsL_law := es_ur18 _ (List.mem_of_getElem? (i := 3) rfl)
theorem es_u18_4 : Cond.selects RX4 yX4_put yX4_put ∈ wsL_law := es_ur18 _ (List.mem_of_getElem? (i := 4) rfl)
theorem es_u18_5 : Cond.code yX4_put cX4_put 3 (some .boolean) ∈ wsL_law := es_ur18 _ (List.mem_of_getElem? (i := 5) rfl)
theorem es_u18_6 : Cond.fieldLink RX4 44 "ExternalSort$Output" "lastKey" "I" ∈ wsL_law := es_ur18 _ (List.mem_of_getElem? (i := 6) rfl)
theorem es_u18_7 : Cond.fieldLink RX4 47 "ExternalSort$Output" "lastTag" "I" ∈ wsL_law := es_ur18 _ (List.mem_of_getElem? (i := 7) rfl)
theorem es_u18_8 : Cond.methodLink RX5 118 yX5_replace ∈ wsL_law := es_ur18 _ (List.mem_of_getElem? (i := 8) rfl)
theorem es_u18_9 : Cond.instanceMethod yX5_replace ∈ wsL_law := es_ur18 _ (List.mem_of_getElem? (i := 9) rfl)
theorem es_u18_10 : Cond.selects RX5 yX5_replace yX5_replace ∈ wsL_law := es_ur18 _ (List.mem_of_getElem? (i := 10) rfl)
theorem es_u18_11 : Cond.code yX5_replace cX5_replace 6 none ∈ wsL_law := es_ur18 _ (List.mem_of_getElem? (i := 11) rfl)
theorem es_u18_12 : Cond.fieldLink RX5 147 "ExternalSort$Output" "lastKey" "I" ∈ wsL_law := es_ur18 _ (List.mem_of_getElem? (i := 12) rfl)
theorem es_u18_13 : Cond.fieldLink RX5 150 "ExternalSort$Output" "lastTag" "I" ∈ wsL_law := es_ur18 _ (List.mem_of_getElem? (i := 13) rfl)
theorem es_u18_14 : Cond.methodLink RX5 140 yX1_hasMore ∈ wsL_law := es_ur18 _ (List.mem_of_getElem? (i := 14) rfl)
theorem es_u18_15 : Cond.instanceMethod yX1_hasMore ∈ wsL_law := es_ur18 _ (List.mem_of_getElem? (i := 15) rfl)
theorem es_u18_16 : Cond.selects RX1 yX1_hasMore yX1_hasMore ∈ wsL_law := es_ur18 _ (List.mem_of_getElem? (i := 16) rfl)
theorem es_u18_17 : Cond.code yX1_hasMore cX1_hasMore 2 (some .boolean) ∈ wsL_law := es_ur18 _ (List.mem_of_getElem? (i := 17) rfl)
theorem es_u18_18 : Cond.methodLink RX5 144 yX3_retire ∈ wsL_law := es_ur18 _ (List.mem_of_getElem? (i := 18) rfl)
theorem es_u18_19 : Cond.instanceMethod yX3_retire ∈ wsL_law := es_ur18 _ (List.mem_of_getElem? (i := 19) rfl)
theorem es_u18_20 : Cond.selects RX3 yX3_retire yX3_retire ∈ wsL_law := es_ur18 _ (List.mem_of_getElem? (i := 20) rfl)
theorem es_u18_21 : Cond.code yX3_retire cX3_retire 2 none ∈ wsL_law := es_ur18 _ (List.mem_of_getElem? (i := 21) rfl)
theorem es_u18_22 : Cond.methodLink RX5 122 yX3_climb ∈ wsL_law := es_ur18 _ (List.mem_of_getElem? (i := 22) rfl)
theorem es_u18_23 : Cond.methodLink RX5 76 yX5_mergePass ∈ wsL_law := es_ur18 _ (List.mem_of_getElem? (i := 23) rfl)
theorem es_u19_0 : Cond.instanceMethod yX5_mergePass ∈ wsL_law := es_ur19 _ (List.mem_of_getElem? (i := 0) rfl)
theorem es_u19_1 : Cond.selects RX5 yX5_mergePass yX5_mergePass ∈ wsL_law := es_ur19 _ (List.mem_of_getElem? (i := 1) rfl)
theorem es_u19_2 : Cond.code yX5_mergePass cX5_mergePass 6 (some .boolean) ∈ wsL_law := es_ur19 _ (List.mem_of_getElem? (i := 2) rfl)
theorem es_u19_3 : Cond.fieldLink RX5 196 "ExternalSort$Tally" "passes" "I" ∈ wsL_law := es_ur19 _ (List.mem_of_getElem? (i := 3) rfl)
theorem es_u19_4 : Cond.methodLink RX5 193 yX5_mergeRuns ∈ wsL_law := es_ur19 _ (List.mem_of_getElem? (i := 4) rfl)
theorem es_u19_5 : Cond.instanceMethod yX5_mergeRuns ∈ wsL_law := es_ur19 _ (List.mem_of_getElem? (i := 5) rfl)
theorem es_u19_6 : Cond.selects RX5 yX5_mergeRuns yX5_mergeRuns ∈ wsL_law := es_ur19 _ (List.mem_of_getElem? (i := 6) rfl)
theorem es_u19_7 : Cond.code yX5_mergeRuns cX5_mergeRuns 8 (some .boolean) ∈ wsL_law := es_ur19 _ (List.mem_of_getElem? (i := 7) rfl)
theorem es_u19_8 : Cond.methodLink RX5 199 yX5_openRuns ∈ wsL_law := es_ur19 _ (List.mem_of_getElem? (i := 8) rfl)
theorem es_u19_9 : Cond.instanceMethod yX5_openRuns ∈ wsL_law := es_ur19 _ (List.mem_of_getElem? (i := 9) rfl)
theorem es_u19_10 : Cond.selects RX5 yX5_openRuns yX5_openRuns ∈ wsL_law := es_ur19 _ (List.mem_of_getElem? (i := 10) rfl)
theorem es_u19_11 : Cond.code yX5_openRuns cX5_openRuns 5 (some .int) ∈ wsL_law := es_ur19 _ (List.mem_of_getElem? (i := 11) rfl)
theorem es_u19_12 : Cond.methodLink RX5 202 yX0_release ∈ wsL_law := es_ur19 _ (List.mem_of_getElem? (i := 12) rfl)
theorem es_u19_13 : Cond.methodLink RX5 205 yX5_enterNext ∈ wsL_law := es_ur19 _ (List.mem_of_getElem? (i := 13) rfl)
theorem es_u19_14 : Cond.instanceMethod yX5_enterNext ∈ wsL_law := es_ur19 _ (List.mem_of_getElem? (i := 14) rfl)
theorem es_u19_15 : Cond.selects RX5 yX5_enterNext yX5_enterNext ∈ wsL_law := es_ur19 _ (List.mem_of_getElem? (i := 15) rfl)
theorem es_u19_16 : Cond.code yX5_enterNext cX5_enterNext 2 none ∈ wsL_law := es_ur19 _ (List.mem_of_getElem? (i := 16) rfl)
theorem es_u19_17 : Cond.methodLink RX7 106 yX7_settleSorted ∈ wsL_law := es_ur19 _ (List.mem_of_getElem? (i := 17) rfl)
theorem es_u19_18 : Cond.instanceMethod yX7_settleSorted ∈ wsL_law := es_ur19 _ (List.mem_of_getElem? (i := 18) rfl)
theorem es_u19_19 : Cond.selects RX7 yX7_settleSorted yX7_settleSorted ∈ wsL_law := es_ur19 _ (List.mem_of_getElem? (i := 19) rfl)
theorem es_u19_20 : Cond.code yX7_settleSorted cX7_settleSorted 3 (some .int) ∈ wsL_law := es_ur19 _ (List.mem_of_getElem? (i := 20) rfl)
theorem es_u19_21 : Cond.fieldLink RX7 113 "ExternalSort$Sorter" "resultHead" "I" ∈ wsL_law := es_ur19 _ (List.mem_of_getElem? (i := 21) rfl)
theorem es_u19_22 : Cond.fieldLink RX7 117 "ExternalSort$Sorter" "resultCount" "I" ∈ wsL_law := es_ur19 _ (List.mem_of_getElem? (i := 22) rfl)
theorem es_u19_23 : Cond.methodLink RX7 143 yX7_settle ∈ wsL_law := es_ur19 _ (List.mem_of_getElem? (i := 23) rfl)
theorem es_u20_0 : Cond.instanceMethod yX7_settle ∈ wsL_law := es_ur20 _ (List.mem_of_getElem? (i := 0) rfl)
theorem es_u20_1 : Cond.selects RX7 yX7_settle yX7_settle ∈ wsL_law := es_ur20 _ (List.mem_of_getElem? (i := 1) rfl)
theorem es_u20_2 : Cond.code yX7_settle cX7_settle 4 (some .int) ∈ wsL_law := es_ur20 _ (List.mem_of_getElem? (i := 2) rfl)
theorem es_u20_3 : Cond.methodLink RX7 198 yX0_handOver ∈ wsL_law := es_ur20 _ (List.mem_of_getElem? (i := 3) rfl)
theorem es_u20_4 : Cond.instanceMethod yX0_handOver ∈ wsL_law := es_ur20 _ (List.mem_of_getElem? (i := 4) rfl)
theorem es_u20_5 : Cond.selects RX0 yX0_handOver yX0_handOver ∈ wsL_law := es_ur20 _ (List.mem_of_getElem? (i := 5) rfl)
theorem es_u20_6 : Cond.code yX0_handOver cX0_handOver 4 none ∈ wsL_law := es_ur20 _ (List.mem_of_getElem? (i := 6) rfl)
theorem es_u20_7 : Cond.methodLink RX7 201 yX6_copyFrom ∈ wsL_law := es_ur20 _ (List.mem_of_getElem? (i := 7) rfl)
theorem es_u20_8 : Cond.instanceMethod yX6_copyFrom ∈ wsL_law := es_ur20 _ (List.mem_of_getElem? (i := 8) rfl)
theorem es_u20_9 : Cond.selects RX6 yX6_copyFrom yX6_copyFrom ∈ wsL_law := es_ur20 _ (List.mem_of_getElem? (i := 9) rfl)
theorem es_u20_10 : Cond.code yX6_copyFrom cX6_copyFrom 3 none ∈ wsL_law := es_ur20 _ (List.mem_of_getElem? (i := 10) rfl)
theorem es_u20_11 : Cond.methodLink RX7 110 yX7_giveUp ∈ wsL_law := es_ur20 _ (List.mem_of_getElem? (i := 11) rfl)
theorem es_u20_12 : Cond.instanceMethod yX7_giveUp ∈ wsL_law := es_ur20 _ (List.mem_of_getElem? (i := 12) rfl)
theorem es_u20_13 : Cond.selects RX7 yX7_giveUp yX7_giveUp ∈ wsL_law := es_ur20 _ (List.mem_of_getElem? (i := 13) rfl)
theorem es_u20_14 : Cond.code yX7_giveUp cX7_giveUp 2 (some .int) ∈ wsL_law := es_ur20 _ (List.mem_of_getElem? (i := 14) rfl)
theorem es_u20_16 : Cond.instanceMethod yX8_sort ∈ wsL_law := es_ur20 _ (List.mem_of_getElem? (i := 16) rfl)
theorem es_u20_17 : Cond.selects RX8 yX8_sort yX8_sort ∈ wsL_law := es_ur20 _ (List.mem_of_getElem? (i := 17) rfl)
theorem es_u20_18 : Cond.code yX8_sort cX8_sort 5 (some .int) ∈ wsL_law := es_ur20 _ (List.mem_of_getElem? (i := 18) rfl)
theorem es_u20_19 : Cond.methodLink RX8 193 yX8_sorts ∈ wsL_law := es_ur20 _ (List.mem_of_getElem? (i := 19) rfl)
theorem es_u20_20 : Cond.instanceMethod yX8_sorts ∈ wsL_law := es_ur20 _ (List.mem_of_getElem? (i := 20) rfl)
theorem es_u20_21 : Cond.selects RX8 yX8_sorts yX8_sorts ∈ wsL_law := es_ur20 _ (List.mem_of_getElem? (i := 21) rfl)
theorem es_u20_22 : Cond.code yX8_sorts cX8_sorts 9 (some .int) ∈ wsL_law := es_ur20 _ (List.mem_of_getElem? (i := 22) rfl)
theorem es_u20_23 : Cond.fieldLink RX8 101 "ExternalSortModel" "isFull" "Z" ∈ wsL_law := es_ur20 _ (List.mem_of_getElem? (i := 23) rfl)
theorem es_u21_0 : Cond.fieldLink RX8 124 "ExternalSortModel" "here" "I" ∈ wsL_law := es_ur21 _ (List.mem_of_getElem? (i := 0) rfl)
theorem es_u21_1 : Cond.methodLink RX8 183 yX8_begins ∈ wsL_law := es_ur21 _ (List.mem_of_getElem? (i := 1) rfl)
theorem es_u21_2 : Cond.instanceMethod yX8_begins ∈ wsL_law := es_ur21 _ (List.mem_of_getElem? (i := 2) rfl)
theorem es_u21_3 : Cond.selects RX8 yX8_begins yX8_begins ∈ wsL_law := es_ur21 _ (List.mem_of_getElem? (i := 3) rfl)
theorem es_u21_4 : Cond.code yX8_begins cX8_begins 1 none ∈ wsL_law := es_ur21 _ (List.mem_of_getElem? (i := 4) rfl)
theorem es_u21_5 : Cond.fieldLink RX8 111 "ExternalSortModel" "read" "I" ∈ wsL_law := es_ur21 _ (List.mem_of_getElem? (i := 5) rfl)
theorem es_u21_6 : Cond.fieldLink RX8 105 "ExternalSortModel" "written" "I" ∈ wsL_law := es_ur21 _ (List.mem_of_getElem? (i := 6) rfl)
theorem es_u21_7 : Cond.fieldLink RX8 145 "ExternalSortModel" "runs" "I" ∈ wsL_law := es_ur21 _ (List.mem_of_getElem? (i := 7) rfl)
theorem es_u21_8 : Cond.fieldLink RX8 157 "ExternalSortModel" "passes" "I" ∈ wsL_law := es_ur21 _ (List.mem_of_getElem? (i := 8) rfl)
theorem es_u21_9 : Cond.fieldLink RX8 108 "ExternalSortModel" "most" "I" ∈ wsL_law := es_ur21 _ (List.mem_of_getElem? (i := 9) rfl)
theorem es_u21_10 : Cond.fieldLink RX8 154 "ExternalSortModel" "firsts" "I" ∈ wsL_law := es_ur21 _ (List.mem_of_getElem? (i := 10) rfl)
theorem es_u21_11 : Cond.methodLink RX8 186 yX8_sorted ∈ wsL_law := es_ur21 _ (List.mem_of_getElem? (i := 11) rfl)
theorem es_u21_12 : Cond.instanceMethod yX8_sorted ∈ wsL_law := es_ur21 _ (List.mem_of_getElem? (i := 12) rfl)
theorem es_u21_13 : Cond.selects RX8 yX8_sorted yX8_sorted ∈ wsL_law := es_ur21 _ (List.mem_of_getElem? (i := 13) rfl)
theorem es_u21_14 : Cond.code yX8_sorted cX8_sorted 5 (some .int) ∈ wsL_law := es_ur21 _ (List.mem_of_getElem? (i := 14) rfl)
theorem es_u21_15 : Cond.fieldLink RX8 98 "ExternalSortModel" "mode" "I" ∈ wsL_law := es_ur21 _ (List.mem_of_getElem? (i := 15) rfl)
theorem es_u21_16 : Cond.fieldLink RX8 148 "ExternalSortModel" "isOnce" "Z" ∈ wsL_law := es_ur21 _ (List.mem_of_getElem? (i := 16) rfl)
theorem es_u21_17 : Cond.fieldLink RX8 127 "ExternalSortModel" "count" "I" ∈ wsL_law := es_ur21 _ (List.mem_of_getElem? (i := 17) rfl)
theorem es_u21_18 : Cond.methodLink RX8 172 yX8_makeRuns ∈ wsL_law := es_ur21 _ (List.mem_of_getElem? (i := 18) rfl)
theorem es_u21_19 : Cond.instanceMethod yX8_makeRuns ∈ wsL_law := es_ur21 _ (List.mem_of_getElem? (i := 19) rfl)
theorem es_u21_20 : Cond.selects RX8 yX8_makeRuns yX8_makeRuns ∈ wsL_law := es_ur21 _ (List.mem_of_getElem? (i := 20) rfl)
theorem es_u21_21 : Cond.code yX8_makeRuns cX8_makeRuns 7 none ∈ wsL_law := es_ur21 _ (List.mem_of_getElem? (i := 21) rfl)
theorem es_u21_22 : Cond.fieldLink RX8 117 "ExternalSortModel" "held" "I" ∈ wsL_law := es_ur21 _ (List.mem_of_getElem? (i := 22) rfl)
theorem es_u21_23 : Cond.fieldLink RX8 114 "ExternalSortModel" "taken" "I" ∈ wsL_law := es_ur21 _ (List.mem_of_getElem? (i := 23) rfl)
theorem es_u22_0 : Cond.methodLink RX8 130 yX8_takes ∈ wsL_law := es_ur22 _ (List.mem_of_getElem? (i := 0) rfl)
theorem es_u22_1 : Cond.instanceMethod yX8_takes ∈ wsL_law := es_ur22 _ (List.mem_of_getElem? (i := 1) rfl)
theorem es_u22_2 : Cond.selects RX8 yX8_takes yX8_takes ∈ wsL_law := es_ur22 _ (List.mem_of_getElem? (i := 2) rfl)
theorem es_u22_3 : Cond.code yX8_takes cX8_takes 3 none ∈ wsL_law := es_ur22 _ (List.mem_of_getElem? (i := 3) rfl)
theorem es_u22_4 : Cond.methodLink RX8 134 yX8_first ∈ wsL_law := es_ur22 _ (List.mem_of_getElem? (i := 4) rfl)
theorem es_u22_5 : Cond.instanceMethod yX8_first ∈ wsL_law := es_ur22 _ (List.mem_of_getElem? (i := 5) rfl)
theorem es_u22_6 : Cond.selects RX8 yX8_first yX8_first ∈ wsL_law := es_ur22 _ (List.mem_of_getElem? (i := 6) rfl)
theorem es_u22_7 : Cond.code yX8_first cX8_first 3 (some .int) ∈ wsL_law := es_ur22 _ (List.mem_of_getElem? (i := 7) rfl)
theorem es_u22_8 : Cond.methodLink RX8 120 yX8_isAhead ∈ wsL_law := es_ur22 _ (List.mem_of_getElem? (i := 8) rfl)
theorem es_u22_9 : Cond.instanceMethod yX8_isAhead ∈ wsL_law := es_ur22 _ (List.mem_of_getElem? (i := 9) rfl)
theorem es_u22_10 : Cond.selects RX8 yX8_isAhead yX8_isAhead ∈ wsL_law := es_ur22 _ (List.mem_of_getElem? (i := 10) rfl)
theorem es_u22_11 : Cond.code yX8_isAhead cX8_isAhead 5 (some .boolean) ∈ wsL_law := es_ur22 _ (List.mem_of_getElem? (i := 11) rfl)
theorem es_u22_12 : Cond.methodLink RX8 138 yX8_endsRun ∈ wsL_law := es_ur22 _ (List.mem_of_getElem? (i := 12) rfl)
theorem es_u22_13 : Cond.instanceMethod yX8_endsRun ∈ wsL_law := es_ur22 _ (List.mem_of_getElem? (i := 13) rfl)
theorem es_u22_14 : Cond.selects RX8 yX8_endsRun yX8_endsRun ∈ wsL_law := es_ur22 _ (List.mem_of_getElem? (i := 14) rfl)
theorem es_u22_15 : Cond.code yX8_endsRun cX8_endsRun 3 (some .int) ∈ wsL_law := es_ur22 _ (List.mem_of_getElem? (i := 15) rfl)
theorem es_u22_16 : Cond.methodLink RX8 151 yX8_writes ∈ wsL_law := es_ur22 _ (List.mem_of_getElem? (i := 16) rfl)
theorem es_u22_17 : Cond.instanceMethod yX8_writes ∈ wsL_law := es_ur22 _ (List.mem_of_getElem? (i := 17) rfl)
theorem es_u22_18 : Cond.selects RX8 yX8_writes yX8_writes ∈ wsL_law := es_ur22 _ (List.mem_of_getElem? (i := 18) rfl)
theorem es_u22_19 : Cond.code yX8_writes cX8_writes 1 none ∈ wsL_law := es_ur22 _ (List.mem_of_getElem? (i := 19) rfl)
theorem es_u22_20 : Cond.methodLink RX8 141 yX8_puts ∈ wsL_law := es_ur22 _ (List.mem_of_getElem? (i := 20) rfl)
theorem es_u22_21 : Cond.instanceMethod yX8_puts ∈ wsL_law := es_ur22 _ (List.mem_of_getElem? (i := 21) rfl)
theorem es_u22_22 : Cond.selects RX8 yX8_puts yX8_puts ∈ wsL_law := es_ur22 _ (List.mem_of_getElem? (i := 22) rfl)
theorem es_u22_23 : Cond.code yX8_puts cX8_puts 5 (some .int) ∈ wsL_law := es_ur22 _ (List.mem_of_getElem? (i := 23) rfl)
theorem es_u23_0 : Cond.methodLink RX8 176 yX8_merges ∈ wsL_law := es_ur23 _ (List.mem_of_getElem? (i := 0) rfl)
theorem es_u23_1 : Cond.instanceMethod yX8_merges ∈ wsL_law := es_ur23 _ (List.mem_of_getElem? (i := 1) rfl)
theorem es_u23_2 : Cond.selects RX8 yX8_merges yX8_merges ∈ wsL_law := es_ur23 _ (List.mem_of_getElem? (i := 2) rfl)
theorem es_u23_3 : Cond.code yX8_merges cX8_merges 8 none ∈ wsL_law := es_ur23 _ (List.mem_of_getElem? (i := 3) rfl)
theorem es_u23_4 : Cond.methodLink RX8 160 yX8_stays ∈ wsL_law := es_ur23 _ (List.mem_of_getElem? (i := 4) rfl)
theorem es_u23_5 : Cond.instanceMethod yX8_stays ∈ wsL_law := es_ur23 _ (List.mem_of_getElem? (i := 5) rfl)
theorem es_u23_6 : Cond.selects RX8 yX8_stays yX8_stays ∈ wsL_law := es_ur23 _ (List.mem_of_getElem? (i := 6) rfl)
theorem es_u23_7 : Cond.code yX8_stays cX8_stays 6 (some .int) ∈ wsL_law := es_ur23 _ (List.mem_of_getElem? (i := 7) rfl)
theorem es_u23_8 : Cond.methodLink RX8 163 yX8_merge ∈ wsL_law := es_ur23 _ (List.mem_of_getElem? (i := 8) rfl)
theorem es_u23_9 : Cond.instanceMethod yX8_merge ∈ wsL_law := es_ur23 _ (List.mem_of_getElem? (i := 9) rfl)
theorem es_u23_10 : Cond.selects RX8 yX8_merge yX8_merge ∈ wsL_law := es_ur23 _ (List.mem_of_getElem? (i := 10) rfl)
theorem es_u23_11 : Cond.code yX8_merge cX8_merge 9 (some .int) ∈ wsL_law := es_ur23 _ (List.mem_of_getElem? (i := 11) rfl)
theorem es_u23_12 : Cond.methodLink RX8 166 yX8_readsPage ∈ wsL_law := es_ur23 _ (List.mem_of_getElem? (i := 12) rfl)
theorem es_u23_13 : Cond.instanceMethod yX8_readsPage ∈ wsL_law := es_ur23 _ (List.mem_of_getElem? (i := 13) rfl)
theorem es_u23_14 : Cond.selects RX8 yX8_readsPage yX8_readsPage ∈ wsL_law := es_ur23 _ (List.mem_of_getElem? (i := 14) rfl)
theorem es_u23_15 : Cond.code yX8_readsPage cX8_readsPage 1 none ∈ wsL_law := es_ur23 _ (List.mem_of_getElem? (i := 15) rfl)
theorem es_u23_16 : Cond.methodLink RX8 169 yX8_leastOf ∈ wsL_law := es_ur23 _ (List.mem_of_getElem? (i := 16) rfl)
theorem es_u23_17 : Cond.instanceMethod yX8_leastOf ∈ wsL_law := es_ur23 _ (List.mem_of_getElem? (i := 17) rfl)
theorem es_u23_18 : Cond.selects RX8 yX8_leastOf yX8_leastOf ∈ wsL_law := es_ur23 _ (List.mem_of_getElem? (i := 18) rfl)
theorem es_u23_19 : Cond.code yX8_leastOf cX8_leastOf 4 (some .int) ∈ wsL_law := es_ur23 _ (List.mem_of_getElem? (i := 19) rfl)
theorem es_u23_20 : Cond.methodLink RX8 190 yX8_tells ∈ wsL_law := es_ur23 _ (List.mem_of_getElem? (i := 20) rfl)
theorem es_u23_21 : Cond.instanceMethod yX8_tells ∈ wsL_law := es_ur23 _ (List.mem_of_getElem? (i := 21) rfl)
theorem es_u23_22 : Cond.selects RX8 yX8_tells yX8_tells ∈ wsL_law := es_ur23 _ (List.mem_of_getElem? (i := 22) rfl)
theorem es_u23_23 : Cond.code yX8_tells cX8_tells 2 none ∈ wsL_law := es_ur23 _ (List.mem_of_getElem? (i := 23) rfl)
theorem es_u24_0 : Cond.fieldLink RX8 180 "ExternalSortModel" "toldMany" "I" ∈ wsL_law := es_ur24 _ (List.mem_of_getElem? (i := 0) rfl)
theorem es_u24_2 : Cond.instanceMethod yX7_distinct ∈ wsL_law := es_ur24 _ (List.mem_of_getElem? (i := 2) rfl)
theorem es_u24_3 : Cond.selects RX7 yX7_distinct yX7_distinct ∈ wsL_law := es_ur24 _ (List.mem_of_getElem? (i := 3) rfl)
theorem es_u24_4 : Cond.code yX7_distinct cX7_distinct 4 (some .int) ∈ wsL_law := es_ur24 _ (List.mem_of_getElem? (i := 4) rfl)
theorem es_u24_6 : Cond.instanceMethod yX8_distinct ∈ wsL_law := es_ur24 _ (List.mem_of_getElem? (i := 6) rfl)
theorem es_u24_7 : Cond.selects RX8 yX8_distinct yX8_distinct ∈ wsL_law := es_ur24 _ (List.mem_of_getElem? (i := 7) rfl)
theorem es_u24_8 : Cond.code yX8_distinct cX8_distinct 4 (some .int) ∈ wsL_law := es_ur24 _ (List.mem_of_getElem? (i := 8) rfl)
theorem es_u24_10 : Cond.instanceMethod yX7_join ∈ wsL_law := es_ur24 _ (List.mem_of_getElem? (i := 10) rfl)
theorem es_u24_11 : Cond.selects RX7 yX7_join yX7_join ∈ wsL_law := es_ur24 _ (List.mem_of_getElem? (i := 11) rfl)
theorem es_u24_12 : Cond.code yX7_join cX7_join 7 (some .int) ∈ wsL_law := es_ur24 _ (List.mem_of_getElem? (i := 12) rfl)
theorem es_u24_13 : Cond.fieldLink RX7 137 "ExternalSort$Output" "head" "I" ∈ wsL_law := es_ur24 _ (List.mem_of_getElem? (i := 13) rfl)
theorem es_u24_14 : Cond.fieldLink RX7 140 "ExternalSort$Output" "count" "I" ∈ wsL_law := es_ur24 _ (List.mem_of_getElem? (i := 14) rfl)
theorem es_u24_15 : Cond.methodLink RX7 120 yX2_look ∈ wsL_law := es_ur24 _ (List.mem_of_getElem? (i := 15) rfl)
theorem es_u24_16 : Cond.instanceMethod yX2_look ∈ wsL_law := es_ur24 _ (List.mem_of_getElem? (i := 16) rfl)
theorem es_u24_17 : Cond.selects RX2 yX2_look yX2_look ∈ wsL_law := es_ur24 _ (List.mem_of_getElem? (i := 17) rfl)
theorem es_u24_18 : Cond.code yX2_look cX2_look 5 none ∈ wsL_law := es_ur24 _ (List.mem_of_getElem? (i := 18) rfl)
theorem es_u24_19 : Cond.fieldLink RX2 39 "ExternalSort$Joiner" "split" "I" ∈ wsL_law := es_ur24 _ (List.mem_of_getElem? (i := 19) rfl)
theorem es_u24_20 : Cond.fieldLink RX2 42 "ExternalSort$Joiner" "end" "I" ∈ wsL_law := es_ur24 _ (List.mem_of_getElem? (i := 20) rfl)
theorem es_u24_21 : Cond.methodLink RX2 35 yX2_copy ∈ wsL_law := es_ur24 _ (List.mem_of_getElem? (i := 21) rfl)
theorem es_u24_22 : Cond.instanceMethod yX2_copy ∈ wsL_law := es_ur24 _ (List.mem_of_getElem? (i := 22) rfl)
theorem es_u24_23 : Cond.selects RX2 yX2_copy yX2_copy ∈ wsL_law := es_ur24 _ (List.mem_of_getElem? (i := 23) rfl)
theorem es_u25_0 : Cond.code yX2_copy cX2_copy 8 (some .int) ∈ wsL_law := es_ur25 _ (List.mem_of_getElem? (i := 0) rfl)
theorem es_u25_1 : Cond.methodLink RX2 96 Lib.Math.min.name ∈ wsL_law := es_ur25 _ (List.mem_of_getElem? (i := 1) rfl)
theorem es_u25_2 : Cond.methodLink RX2 99 yX0_keyAt ∈ wsL_law := es_ur25 _ (List.mem_of_getElem? (i := 2) rfl)
theorem es_u25_3 : Cond.methodLink RX2 102 yX0_tagAt ∈ wsL_law := es_ur25 _ (List.mem_of_getElem? (i := 3) rfl)
theorem es_u25_4 : Cond.methodLink RX2 105 yX0_nextOf ∈ wsL_law := es_ur25 _ (List.mem_of_getElem? (i := 4) rfl)
theorem es_u25_5 : Cond.methodLink RX7 123 yX2_largestGroupOfB ∈ wsL_law := es_ur25 _ (List.mem_of_getElem? (i := 5) rfl)
theorem es_u25_6 : Cond.instanceMethod yX2_largestGroupOfB ∈ wsL_law := es_ur25 _ (List.mem_of_getElem? (i := 6) rfl)
theorem es_u25_7 : Cond.selects RX2 yX2_largestGroupOfB yX2_largestGroupOfB ∈ wsL_law := es_ur25 _ (List.mem_of_getElem? (i := 7) rfl)
theorem es_u25_8 : Cond.code yX2_largestGroupOfB cX2_largestGroupOfB 4 (some .int) ∈ wsL_law := es_ur25 _ (List.mem_of_getElem? (i := 8) rfl)
theorem es_u25_9 : Cond.methodLink RX2 45 Lib.Math.max.name ∈ wsL_law := es_ur25 _ (List.mem_of_getElem? (i := 9) rfl)
theorem es_u25_10 : Cond.methodLink RX7 127 yX5_room ∈ wsL_law := es_ur25 _ (List.mem_of_getElem? (i := 10) rfl)
theorem es_u25_11 : Cond.methodLink RX7 130 yX2_pairsFit ∈ wsL_law := es_ur25 _ (List.mem_of_getElem? (i := 11) rfl)
theorem es_u25_12 : Cond.instanceMethod yX2_pairsFit ∈ wsL_law := es_ur25 _ (List.mem_of_getElem? (i := 12) rfl)
theorem es_u25_13 : Cond.selects RX2 yX2_pairsFit yX2_pairsFit ∈ wsL_law := es_ur25 _ (List.mem_of_getElem? (i := 13) rfl)
theorem es_u25_14 : Cond.code yX2_pairsFit cX2_pairsFit 1 (some .boolean) ∈ wsL_law := es_ur25 _ (List.mem_of_getElem? (i := 14) rfl)
theorem es_u25_15 : Cond.methodLink RX2 51 yX2_countPairs ∈ wsL_law := es_ur25 _ (List.mem_of_getElem? (i := 15) rfl)
theorem es_u25_16 : Cond.instanceMethod yX2_countPairs ∈ wsL_law := es_ur25 _ (List.mem_of_getElem? (i := 16) rfl)
theorem es_u25_17 : Cond.selects RX2 yX2_countPairs yX2_countPairs ∈ wsL_law := es_ur25 _ (List.mem_of_getElem? (i := 17) rfl)
theorem es_u25_18 : Cond.code yX2_countPairs cX2_countPairs 3 (some .int) ∈ wsL_law := es_ur25 _ (List.mem_of_getElem? (i := 18) rfl)
theorem es_u25_19 : Cond.fieldLink RX2 108 "ExternalSort$Joiner" "endA" "I" ∈ wsL_law := es_ur25 _ (List.mem_of_getElem? (i := 19) rfl)
theorem es_u25_20 : Cond.fieldLink RX2 111 "ExternalSort$Joiner" "groupA" "I" ∈ wsL_law := es_ur25 _ (List.mem_of_getElem? (i := 20) rfl)
theorem es_u25_21 : Cond.fieldLink RX2 114 "ExternalSort$Joiner" "endB" "I" ∈ wsL_law := es_ur25 _ (List.mem_of_getElem? (i := 21) rfl)
theorem es_u25_22 : Cond.fieldLink RX2 117 "ExternalSort$Joiner" "groupB" "I" ∈ wsL_law := es_ur25 _ (List.mem_of_getElem? (i := 22) rfl)
theorem es_u25_23 : Cond.methodLink RX2 83 yX2_rewind ∈ wsL_law := es_ur25 _ (List.mem_of_getElem? (i := 23) rfl)
theorem es_u26_0 : Cond.instanceMethod yX2_rewind ∈ wsL_law := es_ur26 _ (List.mem_of_getElem? (i := 0) rfl)
theorem es_u26_1 : Cond.selects RX2 yX2_rewind yX2_rewind ∈ wsL_law := es_ur26 _ (List.mem_of_getElem? (i := 1) rfl)
theorem es_u26_2 : Cond.code yX2_rewind cX2_rewind 1 none ∈ wsL_law := es_ur26 _ (List.mem_of_getElem? (i := 2) rfl)
theorem es_u26_3 : Cond.methodLink RX2 86 yX2_findGroup ∈ wsL_law := es_ur26 _ (List.mem_of_getElem? (i := 3) rfl)
theorem es_u26_4 : Cond.instanceMethod yX2_findGroup ∈ wsL_law := es_ur26 _ (List.mem_of_getElem? (i := 4) rfl)
theorem es_u26_5 : Cond.selects RX2 yX2_findGroup yX2_findGroup ∈ wsL_law := es_ur26 _ (List.mem_of_getElem? (i := 5) rfl)
theorem es_u26_6 : Cond.code yX2_findGroup cX2_findGroup 2 (some .boolean) ∈ wsL_law := es_ur26 _ (List.mem_of_getElem? (i := 6) rfl)
theorem es_u26_7 : Cond.methodLink RX2 120 yX2_groupEnd ∈ wsL_law := es_ur26 _ (List.mem_of_getElem? (i := 7) rfl)
theorem es_u26_8 : Cond.instanceMethod yX2_groupEnd ∈ wsL_law := es_ur26 _ (List.mem_of_getElem? (i := 8) rfl)
theorem es_u26_9 : Cond.selects RX2 yX2_groupEnd yX2_groupEnd ∈ wsL_law := es_ur26 _ (List.mem_of_getElem? (i := 9) rfl)
theorem es_u26_10 : Cond.code yX2_groupEnd cX2_groupEnd 4 (some .int) ∈ wsL_law := es_ur26 _ (List.mem_of_getElem? (i := 10) rfl)
theorem es_u26_11 : Cond.methodLink RX2 55 yX0_pagesFor ∈ wsL_law := es_ur26 _ (List.mem_of_getElem? (i := 11) rfl)
theorem es_u26_12 : Cond.instanceMethod yX0_pagesFor ∈ wsL_law := es_ur26 _ (List.mem_of_getElem? (i := 12) rfl)
theorem es_u26_13 : Cond.selects RX0 yX0_pagesFor yX0_pagesFor ∈ wsL_law := es_ur26 _ (List.mem_of_getElem? (i := 13) rfl)
theorem es_u26_14 : Cond.code yX0_pagesFor cX0_pagesFor 2 (some .int) ∈ wsL_law := es_ur26 _ (List.mem_of_getElem? (i := 14) rfl)
theorem es_u26_15 : Cond.methodLink RX2 59 yX0_freePages ∈ wsL_law := es_ur26 _ (List.mem_of_getElem? (i := 15) rfl)
theorem es_u26_16 : Cond.instanceMethod yX0_freePages ∈ wsL_law := es_ur26 _ (List.mem_of_getElem? (i := 16) rfl)
theorem es_u26_17 : Cond.selects RX0 yX0_freePages yX0_freePages ∈ wsL_law := es_ur26 _ (List.mem_of_getElem? (i := 17) rfl)
theorem es_u26_18 : Cond.code yX0_freePages cX0_freePages 1 (some .int) ∈ wsL_law := es_ur26 _ (List.mem_of_getElem? (i := 18) rfl)
theorem es_u26_19 : Cond.methodLink RX2 62 yX2_sortedPages ∈ wsL_law := es_ur26 _ (List.mem_of_getElem? (i := 19) rfl)
theorem es_u26_20 : Cond.instanceMethod yX2_sortedPages ∈ wsL_law := es_ur26 _ (List.mem_of_getElem? (i := 20) rfl)
theorem es_u26_21 : Cond.selects RX2 yX2_sortedPages yX2_sortedPages ∈ wsL_law := es_ur26 _ (List.mem_of_getElem? (i := 21) rfl)
theorem es_u26_22 : Cond.code yX2_sortedPages cX2_sortedPages 1 (some .int) ∈ wsL_law := es_ur26 _ (List.mem_of_getElem? (i := 22) rfl)
theorem es_u26_23 : Cond.methodLink RX7 134 yX2_writePairs ∈ wsL_law := es_ur26 _ (List.mem_of_getElem? (i := 23) rfl)
theorem es_u27_0 : Cond.instanceMethod yX2_writePairs ∈ wsL_law := es_ur27 _ (List.mem_of_getElem? (i := 0) rfl)
theorem es_u27_1 : Cond.selects RX2 yX2_writePairs yX2_writePairs ∈ wsL_law := es_ur27 _ (List.mem_of_getElem? (i := 1) rfl)
theorem es_u27_2 : Cond.code yX2_writePairs cX2_writePairs 2 (some .boolean) ∈ wsL_law := es_ur27 _ (List.mem_of_getElem? (i := 2) rfl)
theorem es_u27_3 : Cond.fieldLink RX2 65 "ExternalSort$Disk" "tally" "LExternalSort$Tally;" ∈ wsL_law := es_ur27 _ (List.mem_of_getElem? (i := 3) rfl)
theorem es_u27_4 : Cond.fieldLink RX2 69 "ExternalSort$Tally" "reads" "I" ∈ wsL_law := es_ur27 _ (List.mem_of_getElem? (i := 4) rfl)
theorem es_u27_5 : Cond.methodLink RX2 74 yX0_releaseAll ∈ wsL_law := es_ur27 _ (List.mem_of_getElem? (i := 5) rfl)
theorem es_u27_6 : Cond.methodLink RX2 77 yX4_open ∈ wsL_law := es_ur27 _ (List.mem_of_getElem? (i := 6) rfl)
theorem es_u27_7 : Cond.methodLink RX2 90 yX2_writeGroup ∈ wsL_law := es_ur27 _ (List.mem_of_getElem? (i := 7) rfl)
theorem es_u27_8 : Cond.instanceMethod yX2_writeGroup ∈ wsL_law := es_ur27 _ (List.mem_of_getElem? (i := 8) rfl)
theorem es_u27_9 : Cond.selects RX2 yX2_writeGroup yX2_writeGroup ∈ wsL_law := es_ur27 _ (List.mem_of_getElem? (i := 9) rfl)
theorem es_u27_10 : Cond.code yX2_writeGroup cX2_writeGroup 3 (some .boolean) ∈ wsL_law := es_ur27 _ (List.mem_of_getElem? (i := 10) rfl)
theorem es_u27_11 : Cond.methodLink RX2 123 yX4_put ∈ wsL_law := es_ur27 _ (List.mem_of_getElem? (i := 11) rfl)
theorem es_u27_12 : Cond.methodLink RX2 93 yX4_close ∈ wsL_law := es_ur27 _ (List.mem_of_getElem? (i := 12) rfl)
theorem es_u27_14 : Cond.instanceMethod yX8_join ∈ wsL_law := es_ur27 _ (List.mem_of_getElem? (i := 14) rfl)
theorem es_u27_15 : Cond.selects RX8 yX8_join yX8_join ∈ wsL_law := es_ur27 _ (List.mem_of_getElem? (i := 15) rfl)
theorem es_u27_16 : Cond.code yX8_join cX8_join 9 (some .int) ∈ wsL_law := es_ur27 _ (List.mem_of_getElem? (i := 16) rfl)
theorem es_u27_17 : Cond.methodLink RX8 197 yX8_joined ∈ wsL_law := es_ur27 _ (List.mem_of_getElem? (i := 17) rfl)
theorem es_u27_18 : Cond.instanceMethod yX8_joined ∈ wsL_law := es_ur27 _ (List.mem_of_getElem? (i := 18) rfl)
theorem es_u27_19 : Cond.selects RX8 yX8_joined yX8_joined ∈ wsL_law := es_ur27 _ (List.mem_of_getElem? (i := 19) rfl)
theorem es_u27_20 : Cond.code yX8_joined cX8_joined 12 (some .int) ∈ wsL_law := es_ur27 _ (List.mem_of_getElem? (i := 20) rfl)
theorem es_u27_21 : Cond.methodLink RX8 200 yX8_puts2 ∈ wsL_law := es_ur27 _ (List.mem_of_getElem? (i := 21) rfl)
theorem es_u27_22 : Cond.instanceMethod yX8_puts2 ∈ wsL_law := es_ur27 _ (List.mem_of_getElem? (i := 22) rfl)
theorem es_u27_23 : Cond.selects RX8 yX8_puts2 yX8_puts2 ∈ wsL_law := es_ur27 _ (List.mem_of_getElem? (i := 23) rfl)
theorem es_u28_0 : Cond.code yX8_puts2 cX8_puts2 8 none ∈ wsL_law := es_ur28 _ (List.mem_of_getElem? (i := 0) rfl)
theorem es_u28_2 : Cond.instanceMethod yX7_size ∈ wsL_law := es_ur28 _ (List.mem_of_getElem? (i := 2) rfl)
theorem es_u28_3 : Cond.selects RX7 yX7_size yX7_size ∈ wsL_law := es_ur28 _ (List.mem_of_getElem? (i := 3) rfl)
theorem es_u28_4 : Cond.code yX7_size cX7_size 2 (some .int) ∈ wsL_law := es_ur28 _ (List.mem_of_getElem? (i := 4) rfl)
theorem es_u28_6 : Cond.instanceMethod yX8_size ∈ wsL_law := es_ur28 _ (List.mem_of_getElem? (i := 6) rfl)
theorem es_u28_7 : Cond.selects RX8 yX8_size yX8_size ∈ wsL_law := es_ur28 _ (List.mem_of_getElem? (i := 7) rfl)
theorem es_u28_8 : Cond.code yX8_size cX8_size 2 (some .int) ∈ wsL_law := es_ur28 _ (List.mem_of_getElem? (i := 8) rfl)
theorem es_u28_10 : Cond.instanceMethod yX7_key ∈ wsL_law := es_ur28 _ (List.mem_of_getElem? (i := 10) rfl)
theorem es_u28_11 : Cond.selects RX7 yX7_key yX7_key ∈ wsL_law := es_ur28 _ (List.mem_of_getElem? (i := 11) rfl)
theorem es_u28_12 : Cond.code yX7_key cX7_key 3 (some .int) ∈ wsL_law := es_ur28 _ (List.mem_of_getElem? (i := 12) rfl)
theorem es_u28_13 : Cond.methodLink RX7 147 yX7_hasRecord ∈ wsL_law := es_ur28 _ (List.mem_of_getElem? (i := 13) rfl)
theorem es_u28_14 : Cond.instanceMethod yX7_hasRecord ∈ wsL_law := es_ur28 _ (List.mem_of_getElem? (i := 14) rfl)
theorem es_u28_15 : Cond.selects RX7 yX7_hasRecord yX7_hasRecord ∈ wsL_law := es_ur28 _ (List.mem_of_getElem? (i := 15) rfl)
theorem es_u28_16 : Cond.code yX7_hasRecord cX7_hasRecord 3 (some .boolean) ∈ wsL_law := es_ur28 _ (List.mem_of_getElem? (i := 16) rfl)
theorem es_u28_17 : Cond.methodLink RX7 150 yX0_keyAt ∈ wsL_law := es_ur28 _ (List.mem_of_getElem? (i := 17) rfl)
theorem es_u28_19 : Cond.instanceMethod yX8_key ∈ wsL_law := es_ur28 _ (List.mem_of_getElem? (i := 19) rfl)
theorem es_u28_20 : Cond.selects RX8 yX8_key yX8_key ∈ wsL_law := es_ur28 _ (List.mem_of_getElem? (i := 20) rfl)
theorem es_u28_21 : Cond.code yX8_key cX8_key 3 (some .int) ∈ wsL_law := es_ur28 _ (List.mem_of_getElem? (i := 21) rfl)
theorem es_u28_23 : Cond.instanceMethod yX7_tag ∈ wsL_law := es_ur28 _ (List.mem_of_getElem? (i := 23) rfl)
theorem es_u29_0 : Cond.selects RX7 yX7_tag yX7_tag ∈ wsL_law := es_ur29 _ (List.mem_of_getElem? (i := 0) rfl)
theorem es_u29_1 : Cond.code yX7_tag cX7_tag 3 (some .int) ∈ wsL_law := es_ur29 _ (List.mem_of_getElem? (i := 1) rfl)
theorem es_u29_2 : Cond.methodLink RX7 153 yX0_tagAt ∈ wsL_law := es_ur29 _ (List.mem_of_getElem? (i := 2) rfl)
theorem es_u29_4 : Cond.instanceMethod yX8_tag ∈ wsL_law := es_ur29 _ (List.mem_of_getElem? (i := 4) rfl)
theorem es_u29_5 : Cond.selects RX8 yX8_tag yX8_tag ∈ wsL_law := es_ur29 _ (List.mem_of_getElem? (i := 5) rfl)
theorem es_u29_6 : Cond.code yX8_tag cX8_tag 3 (some .int) ∈ wsL_law := es_ur29 _ (List.mem_of_getElem? (i := 6) rfl)
theorem es_u29_8 : Cond.instanceMethod yX7_told ∈ wsL_law := es_ur29 _ (List.mem_of_getElem? (i := 8) rfl)
theorem es_u29_9 : Cond.selects RX7 yX7_told yX7_told ∈ wsL_law := es_ur29 _ (List.mem_of_getElem? (i := 9) rfl)
theorem es_u29_10 : Cond.code yX7_told cX7_told 2 (some .int) ∈ wsL_law := es_ur29 _ (List.mem_of_getElem? (i := 10) rfl)
theorem es_u29_11 : Cond.fieldLink RX7 156 "ExternalSort$Tally" "reads" "I" ∈ wsL_law := es_ur29 _ (List.mem_of_getElem? (i := 11) rfl)
theorem es_u29_12 : Cond.fieldLink RX7 159 "ExternalSort$Tally" "writes" "I" ∈ wsL_law := es_ur29 _ (List.mem_of_getElem? (i := 12) rfl)
theorem es_u29_13 : Cond.fieldLink RX7 162 "ExternalSort$Tally" "runs" "I" ∈ wsL_law := es_ur29 _ (List.mem_of_getElem? (i := 13) rfl)
theorem es_u29_14 : Cond.fieldLink RX7 165 "ExternalSort$Tally" "passes" "I" ∈ wsL_law := es_ur29 _ (List.mem_of_getElem? (i := 14) rfl)
theorem es_u29_15 : Cond.fieldLink RX7 168 "ExternalSort$Tally" "peak" "I" ∈ wsL_law := es_ur29 _ (List.mem_of_getElem? (i := 15) rfl)
theorem es_u29_16 : Cond.fieldLink RX7 174 "ExternalSort$Disk" "pages" "I" ∈ wsL_law := es_ur29 _ (List.mem_of_getElem? (i := 16) rfl)
theorem es_u29_17 : Cond.fieldLink RX7 177 "ExternalSort$Disk" "records" "I" ∈ wsL_law := es_ur29 _ (List.mem_of_getElem? (i := 17) rfl)
theorem es_u29_18 : Cond.methodLink RX7 171 yX0_freePages ∈ wsL_law := es_ur29 _ (List.mem_of_getElem? (i := 18) rfl)
theorem es_u29_20 : Cond.instanceMethod yX8_told ∈ wsL_law := es_ur29 _ (List.mem_of_getElem? (i := 20) rfl)
theorem es_u29_21 : Cond.selects RX8 yX8_told yX8_told ∈ wsL_law := es_ur29 _ (List.mem_of_getElem? (i := 21) rfl)
theorem es_u29_22 : Cond.code yX8_told cX8_told 2 (some .int) ∈ wsL_law := es_ur29 _ (List.mem_of_getElem? (i := 22) rfl)
theorem es_u30_0 : Cond.instanceMethod yX7_run ∈ wsL_law := es_ur30 _ (List.mem_of_getElem? (i := 0) rfl)
theorem es_u30_1 : Cond.selects RX7 yX7_run yX7_run ∈ wsL_law := es_ur30 _ (List.mem_of_getElem? (i := 1) rfl)
theorem es_u30_2 : Cond.code yX7_run cX7_run 2 (some .int) ∈ wsL_law := es_ur30 _ (List.mem_of_getElem? (i := 2) rfl)
theorem es_u30_3 : Cond.methodLink RX7 180 yX6_lengthOf ∈ wsL_law := es_ur30 _ (List.mem_of_getElem? (i := 3) rfl)
theorem es_u30_4 : Cond.instanceMethod yX6_lengthOf ∈ wsL_law := es_ur30 _ (List.mem_of_getElem? (i := 4) rfl)
theorem es_u30_5 : Cond.selects RX6 yX6_lengthOf yX6_lengthOf ∈ wsL_law := es_ur30 _ (List.mem_of_getElem? (i := 5) rfl)
theorem es_u30_6 : Cond.code yX6_lengthOf cX6_lengthOf 2 (some .int) ∈ wsL_law := es_ur30 _ (List.mem_of_getElem? (i := 6) rfl)
theorem es_u30_8 : Cond.instanceMethod yX8_run ∈ wsL_law := es_ur30 _ (List.mem_of_getElem? (i := 8) rfl)
theorem es_u30_9 : Cond.selects RX8 yX8_run yX8_run ∈ wsL_law := es_ur30 _ (List.mem_of_getElem? (i := 9) rfl)
theorem es_u30_10 : Cond.code yX8_run cX8_run 2 (some .int) ∈ wsL_law := es_ur30 _ (List.mem_of_getElem? (i := 10) rfl)
theorem es_mX0_freePages : es_mV yX0_freePages cX0_freePages 1 (some .int) 0 := ⟨es_u26_16, es_u26_17, es_u2_9, es_u26_18, by decide, by decide, by decide +kernel⟩
theorem es_mX0_handOver : es_mV yX0_handOver cX0_handOver 4 none 2 := ⟨es_u20_4, es_u20_5, es_u2_9, es_u20_6, by decide, by decide, by decide +kernel⟩
theorem es_mX0_isCell : es_mV yX0_isCell cX0_isCell 3 (some .boolean) 2 := ⟨es_u9_6, es_u9_7, es_u2_9, es_u9_8, by decide, by decide, by decide +kernel⟩
theorem es_mX0_isPage : es_mV yX0_isPage cX0_isPage 2 (some .boolean) 1 := ⟨es_u8_10, es_u8_11, es_u2_9, es_u8_12, by decide, by decide, by decide +kernel⟩
theorem es_mX0_keyAt : es_mV yX0_keyAt cX0_keyAt 3 (some .int) 2 := ⟨es_u14_1, es_u14_2, es_u2_9, es_u14_3, by decide, by decide, by decide +kernel⟩
theorem es_mX0_link : es_mV yX0_link cX0_link 3 none 2 := ⟨es_u8_22, es_u8_23, es_u2_9, es_u9_0, by decide, by decide, by decide +kernel⟩
theorem es_mX0_nextOf : es_mV yX0_nextOf cX0_nextOf 2 (some .int) 1 := ⟨es_u8_18, es_u8_19, es_u2_9, es_u8_20, by decide, by decide, by decide +kernel⟩
theorem es_mX0_pageOf : es_mV yX0_pageOf cX0_pageOf 6 (some .int) 2 := ⟨es_u8_14, es_u8_15, es_u2_9, es_u8_16, by decide, by decide, by decide +kernel⟩
theorem es_mX0_pagesFor : es_mV yX0_pagesFor cX0_pagesFor 2 (some .int) 1 := ⟨es_u26_12, es_u26_13, es_u2_9, es_u26_14, by decide, by decide, by decide +kernel⟩
theorem es_mX0_release : es_mV yX0_release cX0_release 2 none 1 := ⟨es_u10_5, es_u10_6, es_u2_9, es_u10_7, by decide, by decide, by decide +kernel⟩
theorem es_mX0_releaseAll : es_mV yX0_releaseAll cX0_releaseAll 4 (some .int) 1 := ⟨es_u10_1, es_u10_2, es_u2_9, es_u10_3, by decide, by decide, by decide +kernel⟩
theorem es_mX0_slotOf : es_mV yX0_slotOf cX0_slotOf 2 (some .int) 1 := ⟨es_u7_21, es_u7_22, es_u2_9, es_u7_23, by decide, by decide, by decide +kernel⟩
theorem es_mX0_store : es_mV yX0_store cX0_store 5 none 4 := ⟨es_u9_2, es_u9_3, es_u2_9, es_u9_4, by decide, by decide, by decide +kernel⟩
theorem es_mX0_tagAt : es_mV yX0_tagAt cX0_tagAt 3 (some .int) 2 := ⟨es_u14_5, es_u14_6, es_u2_9, es_u14_7, by decide, by decide, by decide +kernel⟩
theorem es_mX0_take : es_mV yX0_take cX0_take 4 (some .int) 1 := ⟨es_u8_5, es_u8_6, es_u2_9, es_u8_7, by decide, by decide, by decide +kernel⟩
theorem es_mX0_usedPages : es_mV yX0_usedPages cX0_usedPages 1 (some .int) 0 := ⟨es_u11_7, es_u11_8, es_u2_9, es_u11_9, by decide, by decide, by decide +kernel⟩
theorem es_mX1_hasMore : es_mV yX1_hasMore cX1_hasMore 2 (some .boolean) 1 := ⟨es_u18_15, es_u18_16, es_u4_11, es_u18_17, by decide, by decide, by decide +kernel⟩
theorem es_mX1_isUsedUp : es_mV yX1_isUsedUp cX1_isUsedUp 2 (some .boolean) 1 := ⟨es_u13_14, es_u13_15, es_u4_11, es_u13_16, by decide, by decide, by decide +kernel⟩
theorem es_mX1_keyOf : es_mV yX1_keyOf cX1_keyOf 3 (some .int) 1 := ⟨es_u14_10, es_u14_11, es_u4_11, es_u14_12, by decide, by decide, by decide +kernel⟩
theorem es_mX1_open : es_mV yX1_open cX1_open 4 none 3 := ⟨es_u12_23, es_u13_0, es_u4_11, es_u13_1, by decide, by decide, by decide +kernel⟩
theorem es_mX1_readPage : es_mV yX1_readPage cX1_readPage 6 (some .int) 1 := ⟨es_u13_18, es_u13_19, es_u4_11, es_u13_20, by decide, by decide, by decide +kernel⟩
theorem es_mX1_step : es_mV yX1_step cX1_step 2 none 1 := ⟨es_u15_3, es_u15_4, es_u4_11, es_u15_5, by decide, by decide, by decide +kernel⟩
theorem es_mX1_tagOf : es_mV yX1_tagOf cX1_tagOf 3 (some .int) 1 := ⟨es_u14_15, es_u14_16, es_u4_11, es_u14_17, by decide, by decide, by decide +kernel⟩
theorem es_mX2_copy : es_mV yX2_copy cX2_copy 8 (some .int) 3 := ⟨es_u24_22, es_u24_23, es_u2_21, es_u25_0, by decide, by decide, by decide +kernel⟩
theorem es_mX2_countPairs : es_mV yX2_countPairs cX2_countPairs 3 (some .int) 0 := ⟨es_u25_16, es_u25_17, es_u2_21, es_u25_18, by decide, by decide, by decide +kernel⟩
theorem es_mX2_findGroup : es_mV yX2_findGroup cX2_findGroup 2 (some .boolean) 0 := ⟨es_u26_4, es_u26_5, es_u2_21, es_u26_6, by decide, by decide, by decide +kernel⟩
theorem es_mX2_groupEnd : es_mV yX2_groupEnd cX2_groupEnd 4 (some .int) 2 := ⟨es_u26_8, es_u26_9, es_u2_21, es_u26_10, by decide, by decide, by decide +kernel⟩
theorem es_mX2_largestGroupOfB : es_mV yX2_largestGroupOfB cX2_largestGroupOfB 4 (some .int) 0 := ⟨es_u25_6, es_u25_7, es_u2_21, es_u25_8, by decide, by decide, by decide +kernel⟩
theorem es_mX2_look : es_mV yX2_look cX2_look 5 none 4 := ⟨es_u24_16, es_u24_17, es_u2_21, es_u24_18, by decide, by decide, by decide +kernel⟩
theorem es_mX2_pairsFit : es_mV yX2_pairsFit cX2_pairsFit 1 (some .boolean) 0 := ⟨es_u25_12, es_u25_13, es_u2_21, es_u25_14, by decide, by decide, by decide +kernel⟩
theorem es_mX2_rewind : es_mV yX2_rewind cX2_rewind 1 none 0 := ⟨es_u26_0, es_u26_1, es_u2_21, es_u26_2, by decide, by decide, by decide +kernel⟩
theorem es_mX2_sortedPages : es_mV yX2_sortedPages cX2_sortedPages 1 (some .int) 0 := ⟨es_u26_20, es_u26_21, es_u2_21, es_u26_22, by decide, by decide, by decide +kernel⟩
theorem es_mX2_writeGroup : es_mV yX2_writeGroup cX2_writeGroup 3 (some .boolean) 0 := ⟨es_u27_8, es_u27_9, es_u2_21, es_u27_10, by decide, by decide, by decide +kernel⟩
theorem es_mX2_writePairs : es_mV yX2_writePairs cX2_writePairs 2 (some .boolean) 0 := ⟨es_u27_0, es_u27_1, es_u2_21, es_u27_2, by decide, by decide, by decide +kernel⟩
theorem es_mX3_beats : es_mV yX3_beats cX3_beats 4 (some .boolean) 2 := ⟨es_u15_15, es_u15_16, es_u4_15, es_u15_17, by decide, by decide, by decide +kernel⟩
theorem es_mX3_begin : es_mV yX3_begin cX3_begin 3 none 2 := ⟨es_u13_3, es_u13_4, es_u4_15, es_u13_5, by decide, by decide, by decide +kernel⟩
theorem es_mX3_build : es_mV yX3_build cX3_build 2 none 0 := ⟨es_u15_7, es_u15_8, es_u4_15, es_u15_9, by decide, by decide, by decide +kernel⟩
theorem es_mX3_climb : es_mV yX3_climb cX3_climb 5 none 1 := ⟨es_u15_11, es_u15_12, es_u4_15, es_u15_13, by decide, by decide, by decide +kernel⟩
theorem es_mX3_enter : es_mV yX3_enter cX3_enter 6 none 5 := ⟨es_u14_19, es_u14_20, es_u4_15, es_u14_21, by decide, by decide, by decide +kernel⟩
theorem es_mX3_isLeaf : es_mV yX3_isLeaf cX3_isLeaf 2 (some .boolean) 1 := ⟨es_u14_23, es_u15_0, es_u4_15, es_u15_1, by decide, by decide, by decide +kernel⟩
theorem es_mX3_keyOf : es_mV yX3_keyOf cX3_keyOf 2 (some .int) 1 := ⟨es_u17_19, es_u17_20, es_u4_15, es_u17_21, by decide, by decide, by decide +kernel⟩
theorem es_mX3_retire : es_mV yX3_retire cX3_retire 2 none 1 := ⟨es_u18_19, es_u18_20, es_u4_15, es_u18_21, by decide, by decide, by decide +kernel⟩
theorem es_mX3_roundOf : es_mV yX3_roundOf cX3_roundOf 2 (some .int) 1 := ⟨es_u16_10, es_u16_11, es_u4_15, es_u16_12, by decide, by decide, by decide +kernel⟩
theorem es_mX3_tagOf : es_mV yX3_tagOf cX3_tagOf 2 (some .int) 1 := ⟨es_u17_23, es_u18_0, es_u4_15, es_u18_1, by decide, by decide, by decide +kernel⟩
theorem es_mX3_winner : es_mV yX3_winner cX3_winner 1 (some .int) 0 := ⟨es_u16_6, es_u16_7, es_u4_15, es_u16_8, by decide, by decide, by decide +kernel⟩
theorem es_mX4_close : es_mV yX4_close cX4_close 1 (some .boolean) 0 := ⟨es_u16_22, es_u16_23, es_u2_13, es_u17_0, by decide, by decide, by decide +kernel⟩
theorem es_mX4_open : es_mV yX4_open cX4_open 2 none 1 := ⟨es_u15_21, es_u15_22, es_u2_13, es_u15_23, by decide, by decide, by decide +kernel⟩
theorem es_mX4_put : es_mV yX4_put cX4_put 3 (some .boolean) 2 := ⟨es_u18_3, es_u18_4, es_u2_13, es_u18_5, by decide, by decide, by decide +kernel⟩
theorem es_mX4_writePage : es_mV yX4_writePage cX4_writePage 3 (some .boolean) 0 := ⟨es_u17_2, es_u17_3, es_u2_13, es_u17_4, by decide, by decide, by decide +kernel⟩
theorem es_mX5_arrange : es_mV yX5_arrange cX5_arrange 4 (some .boolean) 2 := ⟨es_u12_3, es_u12_4, es_u2_17, es_u12_5, by decide, by decide, by decide +kernel⟩
theorem es_mX5_endRun : es_mV yX5_endRun cX5_endRun 1 (some .boolean) 0 := ⟨es_u16_15, es_u16_16, es_u2_17, es_u16_17, by decide, by decide, by decide +kernel⟩
theorem es_mX5_enterNext : es_mV yX5_enterNext cX5_enterNext 2 none 1 := ⟨es_u19_14, es_u19_15, es_u2_17, es_u19_16, by decide, by decide, by decide +kernel⟩
theorem es_mX5_fillMemory : es_mV yX5_fillMemory cX5_fillMemory 5 (some .int) 2 := ⟨es_u12_14, es_u12_15, es_u2_17, es_u12_16, by decide, by decide, by decide +kernel⟩
theorem es_mX5_keepRun : es_mV yX5_keepRun cX5_keepRun 4 none 3 := ⟨es_u17_15, es_u17_16, es_u2_17, es_u17_17, by decide, by decide, by decide +kernel⟩
theorem es_mX5_makeRuns : es_mV yX5_makeRuns cX5_makeRuns 7 (some .boolean) 2 := ⟨es_u12_10, es_u12_11, es_u2_17, es_u12_12, by decide, by decide, by decide +kernel⟩
theorem es_mX5_mergePass : es_mV yX5_mergePass cX5_mergePass 6 (some .boolean) 0 := ⟨es_u19_0, es_u19_1, es_u2_17, es_u19_2, by decide, by decide, by decide +kernel⟩
theorem es_mX5_mergeRuns : es_mV yX5_mergeRuns cX5_mergeRuns 8 (some .boolean) 2 := ⟨es_u19_5, es_u19_6, es_u2_17, es_u19_7, by decide, by decide, by decide +kernel⟩
theorem es_mX5_openRuns : es_mV yX5_openRuns cX5_openRuns 5 (some .int) 2 := ⟨es_u19_9, es_u19_10, es_u2_17, es_u19_11, by decide, by decide, by decide +kernel⟩
theorem es_mX5_prepare : es_mV yX5_prepare cX5_prepare 4 none 3 := ⟨es_u11_20, es_u11_21, es_u2_17, es_u11_22, by decide, by decide, by decide +kernel⟩
theorem es_mX5_replace : es_mV yX5_replace cX5_replace 6 none 3 := ⟨es_u18_9, es_u18_10, es_u2_17, es_u18_11, by decide, by decide, by decide +kernel⟩
theorem es_mX5_room : es_mV yX5_room cX5_room 1 (some .int) 0 := ⟨es_u12_19, es_u12_20, es_u2_17, es_u12_21, by decide, by decide, by decide +kernel⟩
theorem es_mX5_takeInto : es_mV yX5_takeInto cX5_takeInto 4 none 3 := ⟨es_u13_10, es_u13_11, es_u2_17, es_u13_12, by decide, by decide, by decide +kernel⟩
theorem es_mX6_addRun : es_mV yX6_addRun cX6_addRun 2 none 1 := ⟨es_u17_11, es_u17_12, es_u2_4, es_u17_13, by decide, by decide, by decide +kernel⟩
theorem es_mX6_begin : es_mV yX6_begin cX6_begin 2 none 1 := ⟨es_u11_11, es_u11_12, es_u2_4, es_u11_13, by decide, by decide, by decide +kernel⟩
theorem es_mX6_copyFrom : es_mV yX6_copyFrom cX6_copyFrom 3 none 1 := ⟨es_u20_8, es_u20_9, es_u2_4, es_u20_10, by decide, by decide, by decide +kernel⟩
theorem es_mX6_lengthOf : es_mV yX6_lengthOf cX6_lengthOf 2 (some .int) 1 := ⟨es_u30_4, es_u30_5, es_u2_4, es_u30_6, by decide, by decide, by decide +kernel⟩
theorem es_mX7_addPage : es_mV yX7_addPage cX7_addPage 3 (some .int) 1 := ⟨es_u8_1, es_u8_2, es_u1_2, es_u8_3, by decide, by decide, by decide +kernel⟩
theorem es_mX7_begin : es_mV yX7_begin cX7_begin 4 none 3 := ⟨es_u11_3, es_u11_4, es_u1_2, es_u11_5, by decide, by decide, by decide +kernel⟩
theorem es_mX7_giveUp : es_mV yX7_giveUp cX7_giveUp 2 (some .int) 1 := ⟨es_u20_12, es_u20_13, es_u1_2, es_u20_14, by decide, by decide, by decide +kernel⟩
theorem es_mX7_hasRecord : es_mV yX7_hasRecord cX7_hasRecord 3 (some .boolean) 2 := ⟨es_u28_14, es_u28_15, es_u1_2, es_u28_16, by decide, by decide, by decide +kernel⟩
theorem es_mX7_inOrder : es_mS yX7_inOrder cX7_inOrder 6 (some .int) 5 := ⟨es_u15_18, es_u1_2, es_u15_19, by decide, by decide, by decide +kernel⟩
theorem es_mX7_isBudget : es_mS yX7_isBudget cX7_isBudget 1 (some .boolean) 1 := ⟨es_u10_21, es_u1_2, es_u10_22, by decide, by decide, by decide +kernel⟩
theorem es_mX7_isFile : es_mS yX7_isFile cX7_isFile 1 (some .boolean) 1 := ⟨es_u7_18, es_u1_2, es_u7_19, by decide, by decide, by decide +kernel⟩
theorem es_mX7_isMode : es_mS yX7_isMode cX7_isMode 1 (some .boolean) 1 := ⟨es_u11_0, es_u1_2, es_u11_1, by decide, by decide, by decide +kernel⟩
theorem es_mX7_settle : es_mV yX7_settle cX7_settle 4 (some .int) 3 := ⟨es_u20_0, es_u20_1, es_u1_2, es_u20_2, by decide, by decide, by decide +kernel⟩
theorem es_mX7_settleSorted : es_mV yX7_settleSorted cX7_settleSorted 3 (some .int) 2 := ⟨es_u19_18, es_u19_19, es_u1_2, es_u19_20, by decide, by decide, by decide +kernel⟩
theorem es_mX8_begins : es_mV yX8_begins cX8_begins 1 none 0 := ⟨es_u21_2, es_u21_3, es_u1_5, es_u21_4, by decide, by decide, by decide +kernel⟩
theorem es_mX8_endsRun : es_mV yX8_endsRun cX8_endsRun 3 (some .int) 1 := ⟨es_u22_13, es_u22_14, es_u1_5, es_u22_15, by decide, by decide, by decide +kernel⟩
theorem es_mX8_first : es_mV yX8_first cX8_first 3 (some .int) 0 := ⟨es_u22_5, es_u22_6, es_u1_5, es_u22_7, by decide, by decide, by decide +kernel⟩
theorem es_mX8_in : es_mS yX8_in cX8_in 3 (some .boolean) 3 := ⟨es_u9_18, es_u1_5, es_u9_19, by decide, by decide, by decide +kernel⟩
theorem es_mX8_isAhead : es_mV yX8_isAhead cX8_isAhead 5 (some .boolean) 4 := ⟨es_u22_9, es_u22_10, es_u1_5, es_u22_11, by decide, by decide, by decide +kernel⟩
theorem es_mX8_isFile : es_mS yX8_isFile cX8_isFile 1 (some .boolean) 1 := ⟨es_u9_15, es_u1_5, es_u9_16, by decide, by decide, by decide +kernel⟩
theorem es_mX8_joined : es_mV yX8_joined cX8_joined 12 (some .int) 4 := ⟨es_u27_18, es_u27_19, es_u1_5, es_u27_20, by decide, by decide, by decide +kernel⟩
theorem es_mX8_leastOf : es_mV yX8_leastOf cX8_leastOf 4 (some .int) 1 := ⟨es_u23_17, es_u23_18, es_u1_5, es_u23_19, by decide, by decide, by decide +kernel⟩
theorem es_mX8_makeRuns : es_mV yX8_makeRuns cX8_makeRuns 7 none 2 := ⟨es_u21_19, es_u21_20, es_u1_5, es_u21_21, by decide, by decide, by decide +kernel⟩
theorem es_mX8_merge : es_mV yX8_merge cX8_merge 9 (some .int) 4 := ⟨es_u23_9, es_u23_10, es_u1_5, es_u23_11, by decide, by decide, by decide +kernel⟩
theorem es_mX8_merges : es_mV yX8_merges cX8_merges 8 none 1 := ⟨es_u23_1, es_u23_2, es_u1_5, es_u23_3, by decide, by decide, by decide +kernel⟩
theorem es_mX8_pagesOf : es_mV yX8_pagesOf cX8_pagesOf 2 (some .int) 1 := ⟨es_u10_13, es_u10_14, es_u1_5, es_u10_15, by decide, by decide, by decide +kernel⟩
theorem es_mX8_puts : es_mV yX8_puts cX8_puts 5 (some .int) 4 := ⟨es_u22_21, es_u22_22, es_u1_5, es_u22_23, by decide, by decide, by decide +kernel⟩
theorem es_mX8_puts2 : es_mV yX8_puts2 cX8_puts2 8 none 3 := ⟨es_u27_22, es_u27_23, es_u1_5, es_u28_0, by decide, by decide, by decide +kernel⟩
theorem es_mX8_readsPage : es_mV yX8_readsPage cX8_readsPage 1 none 0 := ⟨es_u23_13, es_u23_14, es_u1_5, es_u23_15, by decide, by decide, by decide +kernel⟩
theorem es_mX8_sorted : es_mV yX8_sorted cX8_sorted 5 (some .int) 4 := ⟨es_u21_12, es_u21_13, es_u1_5, es_u21_14, by decide, by decide, by decide +kernel⟩
theorem es_mX8_sorts : es_mV yX8_sorts cX8_sorts 9 (some .int) 5 := ⟨es_u20_20, es_u20_21, es_u1_5, es_u20_22, by decide, by decide, by decide +kernel⟩
theorem es_mX8_stays : es_mV yX8_stays cX8_stays 6 (some .int) 3 := ⟨es_u23_5, es_u23_6, es_u1_5, es_u23_7, by decide, by decide, by decide +kernel⟩
theorem es_mX8_takes : es_mV yX8_takes cX8_takes 3 none 2 := ⟨es_u22_1, es_u22_2, es_u1_5, es_u22_3, by decide, by decide, by decide +kernel⟩
theorem es_mX8_tells : es_mV yX8_tells cX8_tells 2 none 0 := ⟨es_u23_21, es_u23_22, es_u1_5, es_u23_23, by decide, by decide, by decide +kernel⟩
theorem es_mX8_writes : es_mV yX8_writes cX8_writes 1 none 0 := ⟨es_u22_17, es_u22_18, es_u1_5, es_u22_19, by decide, by decide, by decide +kernel⟩
theorem es_mX7_append : es_mV yX7_append cX7_append 7 (some .int) 3 := ⟨es_u7_14, es_u7_15, es_u1_2, es_u7_16, by decide, by decide, by decide +kernel⟩
theorem es_mX7_distinct : es_mV yX7_distinct cX7_distinct 4 (some .int) 3 := ⟨es_u24_2, es_u24_3, es_u1_2, es_u24_4, by decide, by decide, by decide +kernel⟩
theorem es_mX7_drop : es_mV yX7_drop cX7_drop 2 (some .int) 1 := ⟨es_u9_21, es_u9_22, es_u1_2, es_u9_23, by decide, by decide, by decide +kernel⟩
theorem es_mX7_join : es_mV yX7_join cX7_join 7 (some .int) 4 := ⟨es_u24_10, es_u24_11, es_u1_2, es_u24_12, by decide, by decide, by decide +kernel⟩
theorem es_mX7_key : es_mV yX7_key cX7_key 3 (some .int) 2 := ⟨es_u28_10, es_u28_11, es_u1_2, es_u28_12, by decide, by decide, by decide +kernel⟩
theorem es_mX7_run : es_mV yX7_run cX7_run 2 (some .int) 1 := ⟨es_u30_0, es_u30_1, es_u1_2, es_u30_2, by decide, by decide, by decide +kernel⟩
theorem es_mX7_size : es_mV yX7_size cX7_size 2 (some .int) 1 := ⟨es_u28_2, es_u28_3, es_u1_2, es_u28_4, by decide, by decide, by decide +kernel⟩
theorem es_mX7_sort : es_mV yX7_sort cX7_sort 5 (some .int) 4 := ⟨es_u10_17, es_u10_18, es_u1_2, es_u10_19, by decide, by decide, by decide +kernel⟩
theorem es_mX7_tag : es_mV yX7_tag cX7_tag 3 (some .int) 2 := ⟨es_u28_23, es_u29_0, es_u1_2, es_u29_1, by decide, by decide, by decide +kernel⟩
theorem es_mX7_told : es_mV yX7_told cX7_told 2 (some .int) 1 := ⟨es_u29_8, es_u29_9, es_u1_2, es_u29_10, by decide, by decide, by decide +kernel⟩
theorem es_mX8_append : es_mV yX8_append cX8_append 4 (some .int) 3 := ⟨es_u9_10, es_u9_11, es_u1_5, es_u9_12, by decide, by decide, by decide +kernel⟩
theorem es_mX8_distinct : es_mV yX8_distinct cX8_distinct 4 (some .int) 3 := ⟨es_u24_6, es_u24_7, es_u1_5, es_u24_8, by decide, by decide, by decide +kernel⟩
theorem es_mX8_drop : es_mV yX8_drop cX8_drop 3 (some .int) 1 := ⟨es_u10_9, es_u10_10, es_u1_5, es_u10_11, by decide, by decide, by decide +kernel⟩
theorem es_mX8_join : es_mV yX8_join cX8_join 9 (some .int) 4 := ⟨es_u27_14, es_u27_15, es_u1_5, es_u27_16, by decide, by decide, by decide +kernel⟩
theorem es_mX8_key : es_mV yX8_key cX8_key 3 (some .int) 2 := ⟨es_u28_19, es_u28_20, es_u1_5, es_u28_21, by decide, by decide, by decide +kernel⟩
theorem es_mX8_run : es_mV yX8_run cX8_run 2 (some .int) 1 := ⟨es_u30_8, es_u30_9, es_u1_5, es_u30_10, by decide, by decide, by decide +kernel⟩
theorem es_mX8_size : es_mV yX8_size cX8_size 2 (some .int) 1 := ⟨es_u28_6, es_u28_7, es_u1_5, es_u28_8, by decide, by decide, by decide +kernel⟩
theorem es_mX8_sort : es_mV yX8_sort cX8_sort 5 (some .int) 4 := ⟨es_u20_16, es_u20_17, es_u1_5, es_u20_18, by decide, by decide, by decide +kernel⟩
theorem es_mX8_tag : es_mV yX8_tag cX8_tag 3 (some .int) 2 := ⟨es_u29_4, es_u29_5, es_u1_5, es_u29_6, by decide, by decide, by decide +kernel⟩
theorem es_mX8_told : es_mV yX8_told cX8_told 2 (some .int) 1 := ⟨es_u29_20, es_u29_21, es_u1_5, es_u29_22, by decide, by decide, by decide +kernel⟩
theorem es_mX8_within : es_mS yX8_within cX8_within 3 (some .int) 3 := ⟨es_u7_11, es_u1_5, es_u7_12, by decide, by decide, by decide +kernel⟩
theorem es_tabout0_8 {x : Int32} (h0 : ¬ x = 0) (h1 : ¬ x = 1) (h2 : ¬ x = 2) (h3 : ¬ x = 3) (h4 : ¬ x = 4) (h5 : ¬ x = 5) (h6 : ¬ x = 6) (h7 : ¬ x = 7) (h8 : ¬ x = 8) : x.toInt < 0 ∨ 8 < x.toInt := by
  have n : ∀ (k : Int32), ¬ x = k → x.toInt ≠ k.toInt := fun k h e => h (Int32.toInt_inj.mp e)
  have n0 := n 0 h0; have n1 := n 1 h1; have n2 := n 2 h2; have n3 := n 3 h3; have n4 := n 4 h4; have n5 := n 5 h5; have n6 := n 6 h6; have n7 := n 7 h7; have n8 := n 8 h8
  simp at n0 n1 n2 n3 n4 n5 n6 n7 n8
  omega
theorem es_tabout6_8 {x : Int32} (h6 : ¬ x = 6) (h7 : ¬ x = 7) (h8 : ¬ x = 8) : x.toInt < 6 ∨ 8 < x.toInt := by
  have n : ∀ (k : Int32), ¬ x = k → x.toInt ≠ k.toInt := fun k h e => h (Int32.toInt_inj.mp e)
  have n6 := n 6 h6; have n7 := n 7 h7; have n8 := n 8 h8
  simp at n6 n7 n8
  omega
