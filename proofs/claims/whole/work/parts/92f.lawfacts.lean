/-! the law's links -/
theorem m_10_13 : Cond.methodLink RL 13 yX11_feed ∈ tb := it_10 _ (List.mem_of_getElem? (i := 13) rfl)
theorem m_10_14 : Cond.instanceMethod yX11_feed ∈ tb := it_10 _ (List.mem_of_getElem? (i := 14) rfl)
theorem m_10_15 : Cond.selects RX11 yX11_feed yX11_feed ∈ tb := it_10 _ (List.mem_of_getElem? (i := 15) rfl)
theorem m_10_16 : Cond.code yX11_feed cX11_feed 6 (some .int) ∈ tb := it_10 _ (List.mem_of_getElem? (i := 16) rfl)
theorem m_10_23 : Cond.methodLink RL 17 yX12_feed ∈ tb := it_10 _ (List.mem_of_getElem? (i := 23) rfl)
theorem m_11_0 : Cond.instanceMethod yX12_feed ∈ tb := it_11 _ (List.mem_of_getElem? (i := 0) rfl)
theorem m_11_1 : Cond.selects RX12 yX12_feed yX12_feed ∈ tb := it_11 _ (List.mem_of_getElem? (i := 1) rfl)
theorem m_11_10 : Cond.selects RX11 yX11_end yX11_end ∈ tb := it_11 _ (List.mem_of_getElem? (i := 10) rfl)
theorem m_11_11 : Cond.code yX11_end cX11_end 2 (some .boolean) ∈ tb := it_11 _ (List.mem_of_getElem? (i := 11) rfl)
theorem m_11_12 : Cond.methodLink RL 22 yX12_end ∈ tb := it_11 _ (List.mem_of_getElem? (i := 12) rfl)
theorem m_11_13 : Cond.instanceMethod yX12_end ∈ tb := it_11 _ (List.mem_of_getElem? (i := 13) rfl)
theorem m_11_14 : Cond.selects RX12 yX12_end yX12_end ∈ tb := it_11 _ (List.mem_of_getElem? (i := 14) rfl)
theorem m_11_15 : Cond.code yX12_end cX12_end 2 (some .boolean) ∈ tb := it_11 _ (List.mem_of_getElem? (i := 15) rfl)
theorem m_11_19 : Cond.methodLink RL 23 yX11_book ∈ tb := it_11 _ (List.mem_of_getElem? (i := 19) rfl)
theorem m_11_2 : Cond.code yX12_feed cX12_feed 6 (some .int) ∈ tb := it_11 _ (List.mem_of_getElem? (i := 2) rfl)
theorem m_11_20 : Cond.instanceMethod yX11_book ∈ tb := it_11 _ (List.mem_of_getElem? (i := 20) rfl)
theorem m_11_21 : Cond.selects RX11 yX11_book yX11_book ∈ tb := it_11 _ (List.mem_of_getElem? (i := 21) rfl)
theorem m_11_22 : Cond.code yX11_book cX11_book 2 (some .int) ∈ tb := it_11 _ (List.mem_of_getElem? (i := 22) rfl)
theorem m_11_8 : Cond.methodLink RL 18 yX11_end ∈ tb := it_11 _ (List.mem_of_getElem? (i := 8) rfl)
theorem m_11_9 : Cond.instanceMethod yX11_end ∈ tb := it_11 _ (List.mem_of_getElem? (i := 9) rfl)
theorem m_22_1 : Cond.methodLink RL 27 yX12_book ∈ tb := it_22 _ (List.mem_of_getElem? (i := 1) rfl)
theorem m_22_2 : Cond.instanceMethod yX12_book ∈ tb := it_22 _ (List.mem_of_getElem? (i := 2) rfl)
theorem m_22_3 : Cond.selects RX12 yX12_book yX12_book ∈ tb := it_22 _ (List.mem_of_getElem? (i := 3) rfl)
theorem m_22_4 : Cond.code yX12_book cX12_book 3 (some .int) ∈ tb := it_22 _ (List.mem_of_getElem? (i := 4) rfl)
theorem m_26_18 : Cond.methodLink RL 28 yX11_day ∈ tb := it_26 _ (List.mem_of_getElem? (i := 18) rfl)
theorem m_26_19 : Cond.instanceMethod yX11_day ∈ tb := it_26 _ (List.mem_of_getElem? (i := 19) rfl)
theorem m_26_20 : Cond.selects RX11 yX11_day yX11_day ∈ tb := it_26 _ (List.mem_of_getElem? (i := 20) rfl)
theorem m_26_21 : Cond.code yX11_day cX11_day 3 (some .int) ∈ tb := it_26 _ (List.mem_of_getElem? (i := 21) rfl)
theorem m_38_3 : Cond.methodLink RL 31 yX12_day ∈ tb := it_38 _ (List.mem_of_getElem? (i := 3) rfl)
theorem m_38_4 : Cond.instanceMethod yX12_day ∈ tb := it_38 _ (List.mem_of_getElem? (i := 4) rfl)
theorem m_38_5 : Cond.selects RX12 yX12_day yX12_day ∈ tb := it_38 _ (List.mem_of_getElem? (i := 5) rfl)
theorem m_38_6 : Cond.code yX12_day cX12_day 3 (some .int) ∈ tb := it_38 _ (List.mem_of_getElem? (i := 6) rfl)
theorem m_43_17 : Cond.methodLink RL 32 yX11_fault ∈ tb := it_43 _ (List.mem_of_getElem? (i := 17) rfl)
theorem m_43_18 : Cond.instanceMethod yX11_fault ∈ tb := it_43 _ (List.mem_of_getElem? (i := 18) rfl)
theorem m_43_19 : Cond.selects RX11 yX11_fault yX11_fault ∈ tb := it_43 _ (List.mem_of_getElem? (i := 19) rfl)
theorem m_43_20 : Cond.code yX11_fault cX11_fault 2 (some .int) ∈ tb := it_43 _ (List.mem_of_getElem? (i := 20) rfl)
theorem m_43_23 : Cond.methodLink RL 36 yX12_fault ∈ tb := it_43 _ (List.mem_of_getElem? (i := 23) rfl)
theorem m_44_0 : Cond.instanceMethod yX12_fault ∈ tb := it_44 _ (List.mem_of_getElem? (i := 0) rfl)
theorem m_44_1 : Cond.selects RX12 yX12_fault yX12_fault ∈ tb := it_44 _ (List.mem_of_getElem? (i := 1) rfl)
theorem m_44_14 : Cond.methodLink RL 40 yX12_named ∈ tb := it_44 _ (List.mem_of_getElem? (i := 14) rfl)
theorem m_44_15 : Cond.instanceMethod yX12_named ∈ tb := it_44 _ (List.mem_of_getElem? (i := 15) rfl)
theorem m_44_16 : Cond.selects RX12 yX12_named yX12_named ∈ tb := it_44 _ (List.mem_of_getElem? (i := 16) rfl)
theorem m_44_17 : Cond.code yX12_named cX12_named 5 (some .int) ∈ tb := it_44 _ (List.mem_of_getElem? (i := 17) rfl)
theorem m_44_18 : Cond.methodLink RL 41 yX11_put ∈ tb := it_44 _ (List.mem_of_getElem? (i := 18) rfl)
theorem m_44_19 : Cond.instanceMethod yX11_put ∈ tb := it_44 _ (List.mem_of_getElem? (i := 19) rfl)
theorem m_44_2 : Cond.code yX12_fault cX12_fault 2 (some .int) ∈ tb := it_44 _ (List.mem_of_getElem? (i := 2) rfl)
theorem m_44_20 : Cond.selects RX11 yX11_put yX11_put ∈ tb := it_44 _ (List.mem_of_getElem? (i := 20) rfl)
theorem m_44_21 : Cond.code yX11_put cX11_put 3 (some .boolean) ∈ tb := it_44 _ (List.mem_of_getElem? (i := 21) rfl)
theorem m_44_22 : Cond.methodLink RL 45 yX12_put ∈ tb := it_44 _ (List.mem_of_getElem? (i := 22) rfl)
theorem m_44_23 : Cond.instanceMethod yX12_put ∈ tb := it_44 _ (List.mem_of_getElem? (i := 23) rfl)
theorem m_44_3 : Cond.methodLink RL 37 yX11_named ∈ tb := it_44 _ (List.mem_of_getElem? (i := 3) rfl)
theorem m_44_4 : Cond.instanceMethod yX11_named ∈ tb := it_44 _ (List.mem_of_getElem? (i := 4) rfl)
theorem m_44_5 : Cond.selects RX11 yX11_named yX11_named ∈ tb := it_44 _ (List.mem_of_getElem? (i := 5) rfl)
theorem m_44_6 : Cond.code yX11_named cX11_named 6 (some .int) ∈ tb := it_44 _ (List.mem_of_getElem? (i := 6) rfl)
theorem m_45_0 : Cond.selects RX12 yX12_put yX12_put ∈ tb := it_45 _ (List.mem_of_getElem? (i := 0) rfl)
theorem m_45_1 : Cond.code yX12_put cX12_put 3 (some .boolean) ∈ tb := it_45 _ (List.mem_of_getElem? (i := 1) rfl)
theorem m_45_10 : Cond.methodLink RL 49 yX12_take ∈ tb := it_45 _ (List.mem_of_getElem? (i := 10) rfl)
theorem m_45_11 : Cond.instanceMethod yX12_take ∈ tb := it_45 _ (List.mem_of_getElem? (i := 11) rfl)
theorem m_45_12 : Cond.selects RX12 yX12_take yX12_take ∈ tb := it_45 _ (List.mem_of_getElem? (i := 12) rfl)
theorem m_45_13 : Cond.code yX12_take cX12_take 3 (some .boolean) ∈ tb := it_45 _ (List.mem_of_getElem? (i := 13) rfl)
theorem m_45_14 : Cond.methodLink RL 50 yX11_merge ∈ tb := it_45 _ (List.mem_of_getElem? (i := 14) rfl)
theorem m_45_15 : Cond.instanceMethod yX11_merge ∈ tb := it_45 _ (List.mem_of_getElem? (i := 15) rfl)
theorem m_45_16 : Cond.selects RX11 yX11_merge yX11_merge ∈ tb := it_45 _ (List.mem_of_getElem? (i := 16) rfl)
theorem m_45_17 : Cond.code yX11_merge cX11_merge 3 (some .boolean) ∈ tb := it_45 _ (List.mem_of_getElem? (i := 17) rfl)
theorem m_45_18 : Cond.methodLink RL 53 yX12_merge ∈ tb := it_45 _ (List.mem_of_getElem? (i := 18) rfl)
theorem m_45_19 : Cond.instanceMethod yX12_merge ∈ tb := it_45 _ (List.mem_of_getElem? (i := 19) rfl)
theorem m_45_20 : Cond.selects RX12 yX12_merge yX12_merge ∈ tb := it_45 _ (List.mem_of_getElem? (i := 20) rfl)
theorem m_45_21 : Cond.code yX12_merge cX12_merge 3 (some .boolean) ∈ tb := it_45 _ (List.mem_of_getElem? (i := 21) rfl)
theorem m_45_22 : Cond.methodLink RL 54 yX11_months ∈ tb := it_45 _ (List.mem_of_getElem? (i := 22) rfl)
theorem m_45_23 : Cond.instanceMethod yX11_months ∈ tb := it_45 _ (List.mem_of_getElem? (i := 23) rfl)
theorem m_45_6 : Cond.methodLink RL 46 yX11_take ∈ tb := it_45 _ (List.mem_of_getElem? (i := 6) rfl)
theorem m_45_7 : Cond.instanceMethod yX11_take ∈ tb := it_45 _ (List.mem_of_getElem? (i := 7) rfl)
theorem m_45_8 : Cond.selects RX11 yX11_take yX11_take ∈ tb := it_45 _ (List.mem_of_getElem? (i := 8) rfl)
theorem m_45_9 : Cond.code yX11_take cX11_take 3 (some .boolean) ∈ tb := it_45 _ (List.mem_of_getElem? (i := 9) rfl)
theorem m_46_0 : Cond.selects RX11 yX11_months yX11_months ∈ tb := it_46 _ (List.mem_of_getElem? (i := 0) rfl)
theorem m_46_1 : Cond.code yX11_months cX11_months 2 (some .boolean) ∈ tb := it_46 _ (List.mem_of_getElem? (i := 1) rfl)
theorem m_46_10 : Cond.methodLink RL 61 yX12_pay ∈ tb := it_46 _ (List.mem_of_getElem? (i := 10) rfl)
theorem m_46_11 : Cond.instanceMethod yX12_pay ∈ tb := it_46 _ (List.mem_of_getElem? (i := 11) rfl)
theorem m_46_12 : Cond.selects RX12 yX12_pay yX12_pay ∈ tb := it_46 _ (List.mem_of_getElem? (i := 12) rfl)
theorem m_46_13 : Cond.code yX12_pay cX12_pay 3 (some .boolean) ∈ tb := it_46 _ (List.mem_of_getElem? (i := 13) rfl)
theorem m_46_14 : Cond.methodLink RL 62 yX11_fail ∈ tb := it_46 _ (List.mem_of_getElem? (i := 14) rfl)
theorem m_46_15 : Cond.instanceMethod yX11_fail ∈ tb := it_46 _ (List.mem_of_getElem? (i := 15) rfl)
theorem m_46_16 : Cond.selects RX11 yX11_fail yX11_fail ∈ tb := it_46 _ (List.mem_of_getElem? (i := 16) rfl)
theorem m_46_17 : Cond.code yX11_fail cX11_fail 3 (some .boolean) ∈ tb := it_46 _ (List.mem_of_getElem? (i := 17) rfl)
theorem m_46_18 : Cond.methodLink RL 65 yX12_fail ∈ tb := it_46 _ (List.mem_of_getElem? (i := 18) rfl)
theorem m_46_19 : Cond.instanceMethod yX12_fail ∈ tb := it_46 _ (List.mem_of_getElem? (i := 19) rfl)
theorem m_46_2 : Cond.methodLink RL 57 yX12_months ∈ tb := it_46 _ (List.mem_of_getElem? (i := 2) rfl)
theorem m_46_20 : Cond.selects RX12 yX12_fail yX12_fail ∈ tb := it_46 _ (List.mem_of_getElem? (i := 20) rfl)
theorem m_46_21 : Cond.code yX12_fail cX12_fail 3 (some .boolean) ∈ tb := it_46 _ (List.mem_of_getElem? (i := 21) rfl)
theorem m_46_22 : Cond.methodLink RL 66 yX11_undo ∈ tb := it_46 _ (List.mem_of_getElem? (i := 22) rfl)
theorem m_46_23 : Cond.instanceMethod yX11_undo ∈ tb := it_46 _ (List.mem_of_getElem? (i := 23) rfl)
theorem m_46_3 : Cond.instanceMethod yX12_months ∈ tb := it_46 _ (List.mem_of_getElem? (i := 3) rfl)
theorem m_46_4 : Cond.selects RX12 yX12_months yX12_months ∈ tb := it_46 _ (List.mem_of_getElem? (i := 4) rfl)
theorem m_46_5 : Cond.code yX12_months cX12_months 2 (some .boolean) ∈ tb := it_46 _ (List.mem_of_getElem? (i := 5) rfl)
theorem m_46_6 : Cond.methodLink RL 58 yX11_pay ∈ tb := it_46 _ (List.mem_of_getElem? (i := 6) rfl)
theorem m_46_7 : Cond.instanceMethod yX11_pay ∈ tb := it_46 _ (List.mem_of_getElem? (i := 7) rfl)
theorem m_46_8 : Cond.selects RX11 yX11_pay yX11_pay ∈ tb := it_46 _ (List.mem_of_getElem? (i := 8) rfl)
theorem m_46_9 : Cond.code yX11_pay cX11_pay 3 (some .boolean) ∈ tb := it_46 _ (List.mem_of_getElem? (i := 9) rfl)
theorem m_47_0 : Cond.selects RX11 yX11_undo yX11_undo ∈ tb := it_47 _ (List.mem_of_getElem? (i := 0) rfl)
theorem m_47_1 : Cond.code yX11_undo cX11_undo 1 (some .boolean) ∈ tb := it_47 _ (List.mem_of_getElem? (i := 1) rfl)
theorem m_47_10 : Cond.methodLink RL 71 yX11_account ∈ tb := it_47 _ (List.mem_of_getElem? (i := 10) rfl)
theorem m_47_11 : Cond.instanceMethod yX11_account ∈ tb := it_47 _ (List.mem_of_getElem? (i := 11) rfl)
theorem m_47_12 : Cond.selects RX11 yX11_account yX11_account ∈ tb := it_47 _ (List.mem_of_getElem? (i := 12) rfl)
theorem m_47_13 : Cond.code yX11_account cX11_account 3 (some .int) ∈ tb := it_47 _ (List.mem_of_getElem? (i := 13) rfl)
theorem m_47_6 : Cond.methodLink RL 70 yX12_undo ∈ tb := it_47 _ (List.mem_of_getElem? (i := 6) rfl)
theorem m_47_7 : Cond.instanceMethod yX12_undo ∈ tb := it_47 _ (List.mem_of_getElem? (i := 7) rfl)
theorem m_47_8 : Cond.selects RX12 yX12_undo yX12_undo ∈ tb := it_47 _ (List.mem_of_getElem? (i := 8) rfl)
theorem m_47_9 : Cond.code yX12_undo cX12_undo 2 (some .boolean) ∈ tb := it_47 _ (List.mem_of_getElem? (i := 9) rfl)
theorem m_48_10 : Cond.instanceMethod yX12_account ∈ tb := it_48 _ (List.mem_of_getElem? (i := 10) rfl)
theorem m_48_11 : Cond.selects RX12 yX12_account yX12_account ∈ tb := it_48 _ (List.mem_of_getElem? (i := 11) rfl)
theorem m_48_12 : Cond.code yX12_account cX12_account 4 (some .int) ∈ tb := it_48 _ (List.mem_of_getElem? (i := 12) rfl)
theorem m_48_17 : Cond.methodLink RL 76 yX11_owner ∈ tb := it_48 _ (List.mem_of_getElem? (i := 17) rfl)
theorem m_48_18 : Cond.instanceMethod yX11_owner ∈ tb := it_48 _ (List.mem_of_getElem? (i := 18) rfl)
theorem m_48_19 : Cond.selects RX11 yX11_owner yX11_owner ∈ tb := it_48 _ (List.mem_of_getElem? (i := 19) rfl)
theorem m_48_20 : Cond.code yX11_owner cX11_owner 4 (some .int) ∈ tb := it_48 _ (List.mem_of_getElem? (i := 20) rfl)
theorem m_48_9 : Cond.methodLink RL 75 yX12_account ∈ tb := it_48 _ (List.mem_of_getElem? (i := 9) rfl)
theorem m_49_10 : Cond.methodLink RL 81 yX11_bank ∈ tb := it_49 _ (List.mem_of_getElem? (i := 10) rfl)
theorem m_49_11 : Cond.instanceMethod yX11_bank ∈ tb := it_49 _ (List.mem_of_getElem? (i := 11) rfl)
theorem m_49_12 : Cond.selects RX11 yX11_bank yX11_bank ∈ tb := it_49 _ (List.mem_of_getElem? (i := 12) rfl)
theorem m_49_13 : Cond.code yX11_bank cX11_bank 3 (some .int) ∈ tb := it_49 _ (List.mem_of_getElem? (i := 13) rfl)
theorem m_49_5 : Cond.methodLink RL 80 yX12_owner ∈ tb := it_49 _ (List.mem_of_getElem? (i := 5) rfl)
theorem m_49_6 : Cond.instanceMethod yX12_owner ∈ tb := it_49 _ (List.mem_of_getElem? (i := 6) rfl)
theorem m_49_7 : Cond.selects RX12 yX12_owner yX12_owner ∈ tb := it_49 _ (List.mem_of_getElem? (i := 7) rfl)
theorem m_49_8 : Cond.code yX12_owner cX12_owner 4 (some .int) ∈ tb := it_49 _ (List.mem_of_getElem? (i := 8) rfl)
theorem m_50_10 : Cond.code yX11_held cX11_held 3 (some .long) ∈ tb := it_50 _ (List.mem_of_getElem? (i := 10) rfl)
theorem m_50_2 : Cond.methodLink RL 84 yX12_bank ∈ tb := it_50 _ (List.mem_of_getElem? (i := 2) rfl)
theorem m_50_3 : Cond.instanceMethod yX12_bank ∈ tb := it_50 _ (List.mem_of_getElem? (i := 3) rfl)
theorem m_50_4 : Cond.selects RX12 yX12_bank yX12_bank ∈ tb := it_50 _ (List.mem_of_getElem? (i := 4) rfl)
theorem m_50_5 : Cond.code yX12_bank cX12_bank 5 (some .int) ∈ tb := it_50 _ (List.mem_of_getElem? (i := 5) rfl)
theorem m_50_7 : Cond.methodLink RL 85 yX11_held ∈ tb := it_50 _ (List.mem_of_getElem? (i := 7) rfl)
theorem m_50_8 : Cond.instanceMethod yX11_held ∈ tb := it_50 _ (List.mem_of_getElem? (i := 8) rfl)
theorem m_50_9 : Cond.selects RX11 yX11_held yX11_held ∈ tb := it_50 _ (List.mem_of_getElem? (i := 9) rfl)
theorem m_51_10 : Cond.code yX11_group cX11_group 10 (some .long) ∈ tb := it_51 _ (List.mem_of_getElem? (i := 10) rfl)
theorem m_51_22 : Cond.methodLink RL 94 yX12_group ∈ tb := it_51 _ (List.mem_of_getElem? (i := 22) rfl)
theorem m_51_23 : Cond.instanceMethod yX12_group ∈ tb := it_51 _ (List.mem_of_getElem? (i := 23) rfl)
theorem m_51_3 : Cond.methodLink RL 89 yX12_held ∈ tb := it_51 _ (List.mem_of_getElem? (i := 3) rfl)
theorem m_51_4 : Cond.instanceMethod yX12_held ∈ tb := it_51 _ (List.mem_of_getElem? (i := 4) rfl)
theorem m_51_5 : Cond.selects RX12 yX12_held yX12_held ∈ tb := it_51 _ (List.mem_of_getElem? (i := 5) rfl)
theorem m_51_6 : Cond.code yX12_held cX12_held 6 (some .long) ∈ tb := it_51 _ (List.mem_of_getElem? (i := 6) rfl)
theorem m_51_7 : Cond.methodLink RL 90 yX11_group ∈ tb := it_51 _ (List.mem_of_getElem? (i := 7) rfl)
theorem m_51_8 : Cond.instanceMethod yX11_group ∈ tb := it_51 _ (List.mem_of_getElem? (i := 8) rfl)
theorem m_51_9 : Cond.selects RX11 yX11_group yX11_group ∈ tb := it_51 _ (List.mem_of_getElem? (i := 9) rfl)
theorem m_52_0 : Cond.selects RX12 yX12_group yX12_group ∈ tb := it_52 _ (List.mem_of_getElem? (i := 0) rfl)
theorem m_52_1 : Cond.code yX12_group cX12_group 11 (some .long) ∈ tb := it_52 _ (List.mem_of_getElem? (i := 1) rfl)
theorem m_52_16 : Cond.methodLink RL 95 yX11_of ∈ tb := it_52 _ (List.mem_of_getElem? (i := 16) rfl)
theorem m_52_17 : Cond.instanceMethod yX11_of ∈ tb := it_52 _ (List.mem_of_getElem? (i := 17) rfl)
theorem m_52_18 : Cond.selects RX11 yX11_of yX11_of ∈ tb := it_52 _ (List.mem_of_getElem? (i := 18) rfl)
theorem m_52_19 : Cond.code yX11_of cX11_of 4 (some .long) ∈ tb := it_52 _ (List.mem_of_getElem? (i := 19) rfl)
theorem m_53_10 : Cond.methodLink RL 99 yX12_of ∈ tb := it_53 _ (List.mem_of_getElem? (i := 10) rfl)
theorem m_53_11 : Cond.instanceMethod yX12_of ∈ tb := it_53 _ (List.mem_of_getElem? (i := 11) rfl)
theorem m_53_12 : Cond.selects RX12 yX12_of yX12_of ∈ tb := it_53 _ (List.mem_of_getElem? (i := 12) rfl)
theorem m_53_13 : Cond.code yX12_of cX12_of 4 (some .long) ∈ tb := it_53 _ (List.mem_of_getElem? (i := 13) rfl)
theorem m_53_22 : Cond.methodLink RL 100 yX11_warns ∈ tb := it_53 _ (List.mem_of_getElem? (i := 22) rfl)
theorem m_53_23 : Cond.instanceMethod yX11_warns ∈ tb := it_53 _ (List.mem_of_getElem? (i := 23) rfl)
theorem m_54_0 : Cond.selects RX11 yX11_warns yX11_warns ∈ tb := it_54 _ (List.mem_of_getElem? (i := 0) rfl)
theorem m_54_1 : Cond.code yX11_warns cX11_warns 6 (some .int) ∈ tb := it_54 _ (List.mem_of_getElem? (i := 1) rfl)
theorem m_54_10 : Cond.code yX12_warns cX12_warns 5 (some .int) ∈ tb := it_54 _ (List.mem_of_getElem? (i := 10) rfl)
theorem m_54_11 : Cond.methodLink RL 104 yX11_came ∈ tb := it_54 _ (List.mem_of_getElem? (i := 11) rfl)
theorem m_54_12 : Cond.instanceMethod yX11_came ∈ tb := it_54 _ (List.mem_of_getElem? (i := 12) rfl)
theorem m_54_13 : Cond.selects RX11 yX11_came yX11_came ∈ tb := it_54 _ (List.mem_of_getElem? (i := 13) rfl)
theorem m_54_14 : Cond.code yX11_came cX11_came 4 (some .long) ∈ tb := it_54 _ (List.mem_of_getElem? (i := 14) rfl)
theorem m_54_17 : Cond.methodLink RL 107 yX12_came ∈ tb := it_54 _ (List.mem_of_getElem? (i := 17) rfl)
theorem m_54_18 : Cond.instanceMethod yX12_came ∈ tb := it_54 _ (List.mem_of_getElem? (i := 18) rfl)
theorem m_54_19 : Cond.selects RX12 yX12_came yX12_came ∈ tb := it_54 _ (List.mem_of_getElem? (i := 19) rfl)
theorem m_54_20 : Cond.code yX12_came cX12_came 5 (some .long) ∈ tb := it_54 _ (List.mem_of_getElem? (i := 20) rfl)
theorem m_54_21 : Cond.methodLink RL 108 yX11_total ∈ tb := it_54 _ (List.mem_of_getElem? (i := 21) rfl)
theorem m_54_22 : Cond.instanceMethod yX11_total ∈ tb := it_54 _ (List.mem_of_getElem? (i := 22) rfl)
theorem m_54_23 : Cond.selects RX11 yX11_total yX11_total ∈ tb := it_54 _ (List.mem_of_getElem? (i := 23) rfl)
theorem m_54_7 : Cond.methodLink RL 103 yX12_warns ∈ tb := it_54 _ (List.mem_of_getElem? (i := 7) rfl)
theorem m_54_8 : Cond.instanceMethod yX12_warns ∈ tb := it_54 _ (List.mem_of_getElem? (i := 8) rfl)
theorem m_54_9 : Cond.selects RX12 yX12_warns yX12_warns ∈ tb := it_54 _ (List.mem_of_getElem? (i := 9) rfl)
theorem m_55_0 : Cond.code yX11_total cX11_total 3 (some .long) ∈ tb := it_55 _ (List.mem_of_getElem? (i := 0) rfl)
theorem m_55_12 : Cond.methodLink RL 113 yX11_loan ∈ tb := it_55 _ (List.mem_of_getElem? (i := 12) rfl)
theorem m_55_13 : Cond.instanceMethod yX11_loan ∈ tb := it_55 _ (List.mem_of_getElem? (i := 13) rfl)
theorem m_55_14 : Cond.selects RX11 yX11_loan yX11_loan ∈ tb := it_55 _ (List.mem_of_getElem? (i := 14) rfl)
theorem m_55_15 : Cond.code yX11_loan cX11_loan 3 (some .int) ∈ tb := it_55 _ (List.mem_of_getElem? (i := 15) rfl)
theorem m_55_18 : Cond.methodLink RL 116 yX12_loan ∈ tb := it_55 _ (List.mem_of_getElem? (i := 18) rfl)
theorem m_55_19 : Cond.instanceMethod yX12_loan ∈ tb := it_55 _ (List.mem_of_getElem? (i := 19) rfl)
theorem m_55_20 : Cond.selects RX12 yX12_loan yX12_loan ∈ tb := it_55 _ (List.mem_of_getElem? (i := 20) rfl)
theorem m_55_21 : Cond.code yX12_loan cX12_loan 3 (some .int) ∈ tb := it_55 _ (List.mem_of_getElem? (i := 21) rfl)
theorem m_55_22 : Cond.methodLink RL 117 yX11_moves ∈ tb := it_55 _ (List.mem_of_getElem? (i := 22) rfl)
theorem m_55_23 : Cond.instanceMethod yX11_moves ∈ tb := it_55 _ (List.mem_of_getElem? (i := 23) rfl)
theorem m_55_4 : Cond.methodLink RL 112 yX12_total ∈ tb := it_55 _ (List.mem_of_getElem? (i := 4) rfl)
theorem m_55_5 : Cond.instanceMethod yX12_total ∈ tb := it_55 _ (List.mem_of_getElem? (i := 5) rfl)
theorem m_55_6 : Cond.selects RX12 yX12_total yX12_total ∈ tb := it_55 _ (List.mem_of_getElem? (i := 6) rfl)
theorem m_55_7 : Cond.code yX12_total cX12_total 2 (some .long) ∈ tb := it_55 _ (List.mem_of_getElem? (i := 7) rfl)
theorem m_56_0 : Cond.selects RX11 yX11_moves yX11_moves ∈ tb := it_56 _ (List.mem_of_getElem? (i := 0) rfl)
theorem m_56_1 : Cond.code yX11_moves cX11_moves 7 (some .long) ∈ tb := it_56 _ (List.mem_of_getElem? (i := 1) rfl)
theorem m_57_13 : Cond.methodLink RL 121 yX11_move ∈ tb := it_57 _ (List.mem_of_getElem? (i := 13) rfl)
theorem m_57_14 : Cond.instanceMethod yX11_move ∈ tb := it_57 _ (List.mem_of_getElem? (i := 14) rfl)
theorem m_57_15 : Cond.selects RX11 yX11_move yX11_move ∈ tb := it_57 _ (List.mem_of_getElem? (i := 15) rfl)
theorem m_57_16 : Cond.code yX11_move cX11_move 4 (some .long) ∈ tb := it_57 _ (List.mem_of_getElem? (i := 16) rfl)
theorem m_57_4 : Cond.methodLink RL 120 yX12_moves ∈ tb := it_57 _ (List.mem_of_getElem? (i := 4) rfl)
theorem m_57_5 : Cond.instanceMethod yX12_moves ∈ tb := it_57 _ (List.mem_of_getElem? (i := 5) rfl)
theorem m_57_6 : Cond.selects RX12 yX12_moves yX12_moves ∈ tb := it_57 _ (List.mem_of_getElem? (i := 6) rfl)
theorem m_57_7 : Cond.code yX12_moves cX12_moves 9 (some .long) ∈ tb := it_57 _ (List.mem_of_getElem? (i := 7) rfl)
theorem m_58_10 : Cond.code yX11_bestKind cX11_bestKind 8 (some .int) ∈ tb := it_58 _ (List.mem_of_getElem? (i := 10) rfl)
theorem m_58_23 : Cond.methodLink RL 128 yX12_bestKind ∈ tb := it_58 _ (List.mem_of_getElem? (i := 23) rfl)
theorem m_58_3 : Cond.methodLink RL 124 yX12_move ∈ tb := it_58 _ (List.mem_of_getElem? (i := 3) rfl)
theorem m_58_4 : Cond.instanceMethod yX12_move ∈ tb := it_58 _ (List.mem_of_getElem? (i := 4) rfl)
theorem m_58_5 : Cond.selects RX12 yX12_move yX12_move ∈ tb := it_58 _ (List.mem_of_getElem? (i := 5) rfl)
theorem m_58_6 : Cond.code yX12_move cX12_move 9 (some .long) ∈ tb := it_58 _ (List.mem_of_getElem? (i := 6) rfl)
theorem m_58_7 : Cond.methodLink RL 125 yX11_bestKind ∈ tb := it_58 _ (List.mem_of_getElem? (i := 7) rfl)
theorem m_58_8 : Cond.instanceMethod yX11_bestKind ∈ tb := it_58 _ (List.mem_of_getElem? (i := 8) rfl)
theorem m_58_9 : Cond.selects RX11 yX11_bestKind yX11_bestKind ∈ tb := it_58 _ (List.mem_of_getElem? (i := 9) rfl)
theorem m_59_0 : Cond.instanceMethod yX12_bestKind ∈ tb := it_59 _ (List.mem_of_getElem? (i := 0) rfl)
theorem m_59_1 : Cond.selects RX12 yX12_bestKind yX12_bestKind ∈ tb := it_59 _ (List.mem_of_getElem? (i := 1) rfl)
theorem m_59_14 : Cond.methodLink RL 129 yX11_change ∈ tb := it_59 _ (List.mem_of_getElem? (i := 14) rfl)
theorem m_59_15 : Cond.instanceMethod yX11_change ∈ tb := it_59 _ (List.mem_of_getElem? (i := 15) rfl)
theorem m_59_16 : Cond.selects RX11 yX11_change yX11_change ∈ tb := it_59 _ (List.mem_of_getElem? (i := 16) rfl)
theorem m_59_17 : Cond.code yX11_change cX11_change 4 (some .int) ∈ tb := it_59 _ (List.mem_of_getElem? (i := 17) rfl)
theorem m_59_18 : Cond.methodLink RL 132 yX12_change ∈ tb := it_59 _ (List.mem_of_getElem? (i := 18) rfl)
theorem m_59_19 : Cond.instanceMethod yX12_change ∈ tb := it_59 _ (List.mem_of_getElem? (i := 19) rfl)
theorem m_59_2 : Cond.code yX12_bestKind cX12_bestKind 8 (some .int) ∈ tb := it_59 _ (List.mem_of_getElem? (i := 2) rfl)
theorem m_59_20 : Cond.selects RX12 yX12_change yX12_change ∈ tb := it_59 _ (List.mem_of_getElem? (i := 20) rfl)
theorem m_59_21 : Cond.code yX12_change cX12_change 4 (some .int) ∈ tb := it_59 _ (List.mem_of_getElem? (i := 21) rfl)
theorem m_60_11 : Cond.methodLink RL 136 yX12_rank ∈ tb := it_60 _ (List.mem_of_getElem? (i := 11) rfl)
theorem m_60_12 : Cond.instanceMethod yX12_rank ∈ tb := it_60 _ (List.mem_of_getElem? (i := 12) rfl)
theorem m_60_13 : Cond.selects RX12 yX12_rank yX12_rank ∈ tb := it_60 _ (List.mem_of_getElem? (i := 13) rfl)
theorem m_60_14 : Cond.code yX12_rank cX12_rank 5 (some .int) ∈ tb := it_60 _ (List.mem_of_getElem? (i := 14) rfl)
theorem m_60_15 : Cond.methodLink RL 137 yX11_asKind ∈ tb := it_60 _ (List.mem_of_getElem? (i := 15) rfl)
theorem m_60_16 : Cond.instanceMethod yX11_asKind ∈ tb := it_60 _ (List.mem_of_getElem? (i := 16) rfl)
theorem m_60_17 : Cond.selects RX11 yX11_asKind yX11_asKind ∈ tb := it_60 _ (List.mem_of_getElem? (i := 17) rfl)
theorem m_60_18 : Cond.code yX11_asKind cX11_asKind 3 (some .long) ∈ tb := it_60 _ (List.mem_of_getElem? (i := 18) rfl)
theorem m_60_2 : Cond.methodLink RL 133 yX11_rank ∈ tb := it_60 _ (List.mem_of_getElem? (i := 2) rfl)
theorem m_60_20 : Cond.methodLink RL 140 yX12_asKind ∈ tb := it_60 _ (List.mem_of_getElem? (i := 20) rfl)
theorem m_60_21 : Cond.instanceMethod yX12_asKind ∈ tb := it_60 _ (List.mem_of_getElem? (i := 21) rfl)
theorem m_60_22 : Cond.selects RX12 yX12_asKind yX12_asKind ∈ tb := it_60 _ (List.mem_of_getElem? (i := 22) rfl)
theorem m_60_23 : Cond.code yX12_asKind cX12_asKind 3 (some .long) ∈ tb := it_60 _ (List.mem_of_getElem? (i := 23) rfl)
theorem m_60_3 : Cond.instanceMethod yX11_rank ∈ tb := it_60 _ (List.mem_of_getElem? (i := 3) rfl)
theorem m_60_4 : Cond.selects RX11 yX11_rank yX11_rank ∈ tb := it_60 _ (List.mem_of_getElem? (i := 4) rfl)
theorem m_60_5 : Cond.code yX11_rank cX11_rank 3 (some .int) ∈ tb := it_60 _ (List.mem_of_getElem? (i := 5) rfl)
theorem m_61_1 : Cond.methodLink RL 141 yX11_heirMore ∈ tb := it_61 _ (List.mem_of_getElem? (i := 1) rfl)
theorem m_61_10 : Cond.methodLink RL 145 yX11_worst ∈ tb := it_61 _ (List.mem_of_getElem? (i := 10) rfl)
theorem m_61_11 : Cond.instanceMethod yX11_worst ∈ tb := it_61 _ (List.mem_of_getElem? (i := 11) rfl)
theorem m_61_12 : Cond.selects RX11 yX11_worst yX11_worst ∈ tb := it_61 _ (List.mem_of_getElem? (i := 12) rfl)
theorem m_61_13 : Cond.code yX11_worst cX11_worst 8 (some .long) ∈ tb := it_61 _ (List.mem_of_getElem? (i := 13) rfl)
theorem m_61_17 : Cond.methodLink RL 148 yX12_worst ∈ tb := it_61 _ (List.mem_of_getElem? (i := 17) rfl)
theorem m_61_18 : Cond.instanceMethod yX12_worst ∈ tb := it_61 _ (List.mem_of_getElem? (i := 18) rfl)
theorem m_61_19 : Cond.selects RX12 yX12_worst yX12_worst ∈ tb := it_61 _ (List.mem_of_getElem? (i := 19) rfl)
theorem m_61_2 : Cond.instanceMethod yX11_heirMore ∈ tb := it_61 _ (List.mem_of_getElem? (i := 2) rfl)
theorem m_61_20 : Cond.code yX12_worst cX12_worst 9 (some .long) ∈ tb := it_61 _ (List.mem_of_getElem? (i := 20) rfl)
theorem m_61_21 : Cond.methodLink RL 149 yX11_look ∈ tb := it_61 _ (List.mem_of_getElem? (i := 21) rfl)
theorem m_61_22 : Cond.instanceMethod yX11_look ∈ tb := it_61 _ (List.mem_of_getElem? (i := 22) rfl)
theorem m_61_23 : Cond.selects RX11 yX11_look yX11_look ∈ tb := it_61 _ (List.mem_of_getElem? (i := 23) rfl)
theorem m_61_3 : Cond.selects RX11 yX11_heirMore yX11_heirMore ∈ tb := it_61 _ (List.mem_of_getElem? (i := 3) rfl)
theorem m_61_4 : Cond.code yX11_heirMore cX11_heirMore 4 (some .long) ∈ tb := it_61 _ (List.mem_of_getElem? (i := 4) rfl)
theorem m_61_6 : Cond.methodLink RL 144 yX12_heirMore ∈ tb := it_61 _ (List.mem_of_getElem? (i := 6) rfl)
theorem m_61_7 : Cond.instanceMethod yX12_heirMore ∈ tb := it_61 _ (List.mem_of_getElem? (i := 7) rfl)
theorem m_61_8 : Cond.selects RX12 yX12_heirMore yX12_heirMore ∈ tb := it_61 _ (List.mem_of_getElem? (i := 8) rfl)
theorem m_61_9 : Cond.code yX12_heirMore cX12_heirMore 4 (some .long) ∈ tb := it_61 _ (List.mem_of_getElem? (i := 9) rfl)
theorem m_62_0 : Cond.code yX11_look cX11_look 2 (some .int) ∈ tb := it_62 _ (List.mem_of_getElem? (i := 0) rfl)
theorem m_62_4 : Cond.methodLink RL 152 yX12_look ∈ tb := it_62 _ (List.mem_of_getElem? (i := 4) rfl)
theorem m_62_5 : Cond.instanceMethod yX12_look ∈ tb := it_62 _ (List.mem_of_getElem? (i := 5) rfl)
theorem m_62_6 : Cond.selects RX12 yX12_look yX12_look ∈ tb := it_62 _ (List.mem_of_getElem? (i := 6) rfl)
theorem m_62_7 : Cond.code yX12_look cX12_look 2 (some .int) ∈ tb := it_62 _ (List.mem_of_getElem? (i := 7) rfl)
theorem cvL_100 : gCV RL 100 11 1 yX11_warns cX11_warns 6 (some .int) := ⟨RX11, TX11, 11, rfl, gi_V m_53_22 m_53_23 m_54_0 m_1_2 m_54_1, rfl, by decide +kernel, by decide +kernel, by decide +kernel⟩
theorem cvL_103 : gCV RL 103 12 1 yX12_warns cX12_warns 5 (some .int) := ⟨RX12, TX12, 48, rfl, gi_V m_54_7 m_54_8 m_54_9 m_1_5 m_54_10, rfl, by decide +kernel, by decide +kernel, by decide +kernel⟩
theorem cvL_104 : gCV RL 104 11 3 yX11_came cX11_came 4 (some .long) := ⟨RX11, TX11, 11, rfl, gi_V m_54_11 m_54_12 m_54_13 m_1_2 m_54_14, rfl, by decide +kernel, by decide +kernel, by decide +kernel⟩
theorem cvL_107 : gCV RL 107 12 3 yX12_came cX12_came 5 (some .long) := ⟨RX12, TX12, 48, rfl, gi_V m_54_17 m_54_18 m_54_19 m_1_5 m_54_20, rfl, by decide +kernel, by decide +kernel, by decide +kernel⟩
theorem cvL_108 : gCV RL 108 11 1 yX11_total cX11_total 3 (some .long) := ⟨RX11, TX11, 11, rfl, gi_V m_54_21 m_54_22 m_54_23 m_1_2 m_55_0, rfl, by decide +kernel, by decide +kernel, by decide +kernel⟩
theorem cvL_112 : gCV RL 112 12 1 yX12_total cX12_total 2 (some .long) := ⟨RX12, TX12, 48, rfl, gi_V m_55_4 m_55_5 m_55_6 m_1_5 m_55_7, rfl, by decide +kernel, by decide +kernel, by decide +kernel⟩
theorem cvL_113 : gCV RL 113 11 2 yX11_loan cX11_loan 3 (some .int) := ⟨RX11, TX11, 11, rfl, gi_V m_55_12 m_55_13 m_55_14 m_1_2 m_55_15, rfl, by decide +kernel, by decide +kernel, by decide +kernel⟩
theorem cvL_116 : gCV RL 116 12 2 yX12_loan cX12_loan 3 (some .int) := ⟨RX12, TX12, 48, rfl, gi_V m_55_18 m_55_19 m_55_20 m_1_5 m_55_21, rfl, by decide +kernel, by decide +kernel, by decide +kernel⟩
theorem cvL_117 : gCV RL 117 11 2 yX11_moves cX11_moves 7 (some .long) := ⟨RX11, TX11, 11, rfl, gi_V m_55_22 m_55_23 m_56_0 m_1_2 m_56_1, rfl, by decide +kernel, by decide +kernel, by decide +kernel⟩
theorem cvL_120 : gCV RL 120 12 2 yX12_moves cX12_moves 9 (some .long) := ⟨RX12, TX12, 48, rfl, gi_V m_57_4 m_57_5 m_57_6 m_1_5 m_57_7, rfl, by decide +kernel, by decide +kernel, by decide +kernel⟩
theorem cvL_121 : gCV RL 121 11 3 yX11_move cX11_move 4 (some .long) := ⟨RX11, TX11, 11, rfl, gi_V m_57_13 m_57_14 m_57_15 m_1_2 m_57_16, rfl, by decide +kernel, by decide +kernel, by decide +kernel⟩
theorem cvL_124 : gCV RL 124 12 3 yX12_move cX12_move 9 (some .long) := ⟨RX12, TX12, 48, rfl, gi_V m_58_3 m_58_4 m_58_5 m_1_5 m_58_6, rfl, by decide +kernel, by decide +kernel, by decide +kernel⟩
theorem cvL_125 : gCV RL 125 11 1 yX11_bestKind cX11_bestKind 8 (some .int) := ⟨RX11, TX11, 11, rfl, gi_V m_58_7 m_58_8 m_58_9 m_1_2 m_58_10, rfl, by decide +kernel, by decide +kernel, by decide +kernel⟩
theorem cvL_128 : gCV RL 128 12 1 yX12_bestKind cX12_bestKind 8 (some .int) := ⟨RX12, TX12, 48, rfl, gi_V m_58_23 m_59_0 m_59_1 m_1_5 m_59_2, rfl, by decide +kernel, by decide +kernel, by decide +kernel⟩
theorem cvL_129 : gCV RL 129 11 1 yX11_change cX11_change 4 (some .int) := ⟨RX11, TX11, 11, rfl, gi_V m_59_14 m_59_15 m_59_16 m_1_2 m_59_17, rfl, by decide +kernel, by decide +kernel, by decide +kernel⟩
theorem cvL_13 : gCV RL 13 11 5 yX11_feed cX11_feed 6 (some .int) := ⟨RX11, TX11, 11, rfl, gi_V m_10_13 m_10_14 m_10_15 m_1_2 m_10_16, rfl, by decide +kernel, by decide +kernel, by decide +kernel⟩
theorem cvL_132 : gCV RL 132 12 1 yX12_change cX12_change 4 (some .int) := ⟨RX12, TX12, 48, rfl, gi_V m_59_18 m_59_19 m_59_20 m_1_5 m_59_21, rfl, by decide +kernel, by decide +kernel, by decide +kernel⟩
theorem cvL_133 : gCV RL 133 11 1 yX11_rank cX11_rank 3 (some .int) := ⟨RX11, TX11, 11, rfl, gi_V m_60_2 m_60_3 m_60_4 m_1_2 m_60_5, rfl, by decide +kernel, by decide +kernel, by decide +kernel⟩
theorem cvL_136 : gCV RL 136 12 1 yX12_rank cX12_rank 5 (some .int) := ⟨RX12, TX12, 48, rfl, gi_V m_60_11 m_60_12 m_60_13 m_1_5 m_60_14, rfl, by decide +kernel, by decide +kernel, by decide +kernel⟩
theorem cvL_137 : gCV RL 137 11 2 yX11_asKind cX11_asKind 3 (some .long) := ⟨RX11, TX11, 11, rfl, gi_V m_60_15 m_60_16 m_60_17 m_1_2 m_60_18, rfl, by decide +kernel, by decide +kernel, by decide +kernel⟩
theorem cvL_140 : gCV RL 140 12 2 yX12_asKind cX12_asKind 3 (some .long) := ⟨RX12, TX12, 48, rfl, gi_V m_60_20 m_60_21 m_60_22 m_1_5 m_60_23, rfl, by decide +kernel, by decide +kernel, by decide +kernel⟩
theorem cvL_141 : gCV RL 141 11 1 yX11_heirMore cX11_heirMore 4 (some .long) := ⟨RX11, TX11, 11, rfl, gi_V m_61_1 m_61_2 m_61_3 m_1_2 m_61_4, rfl, by decide +kernel, by decide +kernel, by decide +kernel⟩
theorem cvL_144 : gCV RL 144 12 1 yX12_heirMore cX12_heirMore 4 (some .long) := ⟨RX12, TX12, 48, rfl, gi_V m_61_6 m_61_7 m_61_8 m_1_5 m_61_9, rfl, by decide +kernel, by decide +kernel, by decide +kernel⟩
theorem cvL_145 : gCV RL 145 11 1 yX11_worst cX11_worst 8 (some .long) := ⟨RX11, TX11, 11, rfl, gi_V m_61_10 m_61_11 m_61_12 m_1_2 m_61_13, rfl, by decide +kernel, by decide +kernel, by decide +kernel⟩
theorem cvL_148 : gCV RL 148 12 1 yX12_worst cX12_worst 9 (some .long) := ⟨RX12, TX12, 48, rfl, gi_V m_61_17 m_61_18 m_61_19 m_1_5 m_61_20, rfl, by decide +kernel, by decide +kernel, by decide +kernel⟩
theorem cvL_149 : gCV RL 149 11 1 yX11_look cX11_look 2 (some .int) := ⟨RX11, TX11, 11, rfl, gi_V m_61_21 m_61_22 m_61_23 m_1_2 m_62_0, rfl, by decide +kernel, by decide +kernel, by decide +kernel⟩
theorem cvL_152 : gCV RL 152 12 1 yX12_look cX12_look 2 (some .int) := ⟨RX12, TX12, 48, rfl, gi_V m_62_4 m_62_5 m_62_6 m_1_5 m_62_7, rfl, by decide +kernel, by decide +kernel, by decide +kernel⟩
theorem cvL_17 : gCV RL 17 12 5 yX12_feed cX12_feed 6 (some .int) := ⟨RX12, TX12, 48, rfl, gi_V m_10_23 m_11_0 m_11_1 m_1_5 m_11_2, rfl, by decide +kernel, by decide +kernel, by decide +kernel⟩
theorem cvL_18 : gCV RL 18 11 1 yX11_end cX11_end 2 (some .boolean) := ⟨RX11, TX11, 11, rfl, gi_V m_11_8 m_11_9 m_11_10 m_1_2 m_11_11, rfl, by decide +kernel, by decide +kernel, by decide +kernel⟩
theorem cvL_22 : gCV RL 22 12 1 yX12_end cX12_end 2 (some .boolean) := ⟨RX12, TX12, 48, rfl, gi_V m_11_12 m_11_13 m_11_14 m_1_5 m_11_15, rfl, by decide +kernel, by decide +kernel, by decide +kernel⟩
theorem cvL_23 : gCV RL 23 11 0 yX11_book cX11_book 2 (some .int) := ⟨RX11, TX11, 11, rfl, gi_V m_11_19 m_11_20 m_11_21 m_1_2 m_11_22, rfl, by decide +kernel, by decide +kernel, by decide +kernel⟩
theorem cvL_27 : gCV RL 27 12 0 yX12_book cX12_book 3 (some .int) := ⟨RX12, TX12, 48, rfl, gi_V m_22_1 m_22_2 m_22_3 m_1_5 m_22_4, rfl, by decide +kernel, by decide +kernel, by decide +kernel⟩
theorem cvL_28 : gCV RL 28 11 0 yX11_day cX11_day 3 (some .int) := ⟨RX11, TX11, 11, rfl, gi_V m_26_18 m_26_19 m_26_20 m_1_2 m_26_21, rfl, by decide +kernel, by decide +kernel, by decide +kernel⟩
theorem cvL_31 : gCV RL 31 12 0 yX12_day cX12_day 3 (some .int) := ⟨RX12, TX12, 48, rfl, gi_V m_38_3 m_38_4 m_38_5 m_1_5 m_38_6, rfl, by decide +kernel, by decide +kernel, by decide +kernel⟩
theorem cvL_32 : gCV RL 32 11 1 yX11_fault cX11_fault 2 (some .int) := ⟨RX11, TX11, 11, rfl, gi_V m_43_17 m_43_18 m_43_19 m_1_2 m_43_20, rfl, by decide +kernel, by decide +kernel, by decide +kernel⟩
theorem cvL_36 : gCV RL 36 12 1 yX12_fault cX12_fault 2 (some .int) := ⟨RX12, TX12, 48, rfl, gi_V m_43_23 m_44_0 m_44_1 m_1_5 m_44_2, rfl, by decide +kernel, by decide +kernel, by decide +kernel⟩
theorem cvL_37 : gCV RL 37 11 1 yX11_named cX11_named 6 (some .int) := ⟨RX11, TX11, 11, rfl, gi_V m_44_3 m_44_4 m_44_5 m_1_2 m_44_6, rfl, by decide +kernel, by decide +kernel, by decide +kernel⟩
theorem cvL_40 : gCV RL 40 12 1 yX12_named cX12_named 5 (some .int) := ⟨RX12, TX12, 48, rfl, gi_V m_44_14 m_44_15 m_44_16 m_1_5 m_44_17, rfl, by decide +kernel, by decide +kernel, by decide +kernel⟩
theorem cvL_41 : gCV RL 41 11 2 yX11_put cX11_put 3 (some .boolean) := ⟨RX11, TX11, 11, rfl, gi_V m_44_18 m_44_19 m_44_20 m_1_2 m_44_21, rfl, by decide +kernel, by decide +kernel, by decide +kernel⟩
theorem cvL_45 : gCV RL 45 12 2 yX12_put cX12_put 3 (some .boolean) := ⟨RX12, TX12, 48, rfl, gi_V m_44_22 m_44_23 m_45_0 m_1_5 m_45_1, rfl, by decide +kernel, by decide +kernel, by decide +kernel⟩
theorem cvL_46 : gCV RL 46 11 2 yX11_take cX11_take 3 (some .boolean) := ⟨RX11, TX11, 11, rfl, gi_V m_45_6 m_45_7 m_45_8 m_1_2 m_45_9, rfl, by decide +kernel, by decide +kernel, by decide +kernel⟩
theorem cvL_49 : gCV RL 49 12 2 yX12_take cX12_take 3 (some .boolean) := ⟨RX12, TX12, 48, rfl, gi_V m_45_10 m_45_11 m_45_12 m_1_5 m_45_13, rfl, by decide +kernel, by decide +kernel, by decide +kernel⟩
theorem cvL_50 : gCV RL 50 11 2 yX11_merge cX11_merge 3 (some .boolean) := ⟨RX11, TX11, 11, rfl, gi_V m_45_14 m_45_15 m_45_16 m_1_2 m_45_17, rfl, by decide +kernel, by decide +kernel, by decide +kernel⟩
theorem cvL_53 : gCV RL 53 12 2 yX12_merge cX12_merge 3 (some .boolean) := ⟨RX12, TX12, 48, rfl, gi_V m_45_18 m_45_19 m_45_20 m_1_5 m_45_21, rfl, by decide +kernel, by decide +kernel, by decide +kernel⟩
theorem cvL_54 : gCV RL 54 11 1 yX11_months cX11_months 2 (some .boolean) := ⟨RX11, TX11, 11, rfl, gi_V m_45_22 m_45_23 m_46_0 m_1_2 m_46_1, rfl, by decide +kernel, by decide +kernel, by decide +kernel⟩
theorem cvL_57 : gCV RL 57 12 1 yX12_months cX12_months 2 (some .boolean) := ⟨RX12, TX12, 48, rfl, gi_V m_46_2 m_46_3 m_46_4 m_1_5 m_46_5, rfl, by decide +kernel, by decide +kernel, by decide +kernel⟩
theorem cvL_58 : gCV RL 58 11 2 yX11_pay cX11_pay 3 (some .boolean) := ⟨RX11, TX11, 11, rfl, gi_V m_46_6 m_46_7 m_46_8 m_1_2 m_46_9, rfl, by decide +kernel, by decide +kernel, by decide +kernel⟩
theorem cvL_61 : gCV RL 61 12 2 yX12_pay cX12_pay 3 (some .boolean) := ⟨RX12, TX12, 48, rfl, gi_V m_46_10 m_46_11 m_46_12 m_1_5 m_46_13, rfl, by decide +kernel, by decide +kernel, by decide +kernel⟩
theorem cvL_62 : gCV RL 62 11 2 yX11_fail cX11_fail 3 (some .boolean) := ⟨RX11, TX11, 11, rfl, gi_V m_46_14 m_46_15 m_46_16 m_1_2 m_46_17, rfl, by decide +kernel, by decide +kernel, by decide +kernel⟩
theorem cvL_65 : gCV RL 65 12 2 yX12_fail cX12_fail 3 (some .boolean) := ⟨RX12, TX12, 48, rfl, gi_V m_46_18 m_46_19 m_46_20 m_1_5 m_46_21, rfl, by decide +kernel, by decide +kernel, by decide +kernel⟩
theorem cvL_66 : gCV RL 66 11 0 yX11_undo cX11_undo 1 (some .boolean) := ⟨RX11, TX11, 11, rfl, gi_V m_46_22 m_46_23 m_47_0 m_1_2 m_47_1, rfl, by decide +kernel, by decide +kernel, by decide +kernel⟩
theorem cvL_70 : gCV RL 70 12 0 yX12_undo cX12_undo 2 (some .boolean) := ⟨RX12, TX12, 48, rfl, gi_V m_47_6 m_47_7 m_47_8 m_1_5 m_47_9, rfl, by decide +kernel, by decide +kernel, by decide +kernel⟩
theorem cvL_71 : gCV RL 71 11 2 yX11_account cX11_account 3 (some .int) := ⟨RX11, TX11, 11, rfl, gi_V m_47_10 m_47_11 m_47_12 m_1_2 m_47_13, rfl, by decide +kernel, by decide +kernel, by decide +kernel⟩
theorem cvL_75 : gCV RL 75 12 2 yX12_account cX12_account 4 (some .int) := ⟨RX12, TX12, 48, rfl, gi_V m_48_9 m_48_10 m_48_11 m_1_5 m_48_12, rfl, by decide +kernel, by decide +kernel, by decide +kernel⟩
theorem cvL_76 : gCV RL 76 11 3 yX11_owner cX11_owner 4 (some .int) := ⟨RX11, TX11, 11, rfl, gi_V m_48_17 m_48_18 m_48_19 m_1_2 m_48_20, rfl, by decide +kernel, by decide +kernel, by decide +kernel⟩
theorem cvL_80 : gCV RL 80 12 3 yX12_owner cX12_owner 4 (some .int) := ⟨RX12, TX12, 48, rfl, gi_V m_49_5 m_49_6 m_49_7 m_1_5 m_49_8, rfl, by decide +kernel, by decide +kernel, by decide +kernel⟩
theorem cvL_81 : gCV RL 81 11 2 yX11_bank cX11_bank 3 (some .int) := ⟨RX11, TX11, 11, rfl, gi_V m_49_10 m_49_11 m_49_12 m_1_2 m_49_13, rfl, by decide +kernel, by decide +kernel, by decide +kernel⟩
theorem cvL_84 : gCV RL 84 12 2 yX12_bank cX12_bank 5 (some .int) := ⟨RX12, TX12, 48, rfl, gi_V m_50_2 m_50_3 m_50_4 m_1_5 m_50_5, rfl, by decide +kernel, by decide +kernel, by decide +kernel⟩
theorem cvL_85 : gCV RL 85 11 2 yX11_held cX11_held 3 (some .long) := ⟨RX11, TX11, 11, rfl, gi_V m_50_7 m_50_8 m_50_9 m_1_2 m_50_10, rfl, by decide +kernel, by decide +kernel, by decide +kernel⟩
theorem cvL_89 : gCV RL 89 12 2 yX12_held cX12_held 6 (some .long) := ⟨RX12, TX12, 48, rfl, gi_V m_51_3 m_51_4 m_51_5 m_1_5 m_51_6, rfl, by decide +kernel, by decide +kernel, by decide +kernel⟩
theorem cvL_90 : gCV RL 90 11 5 yX11_group cX11_group 10 (some .long) := ⟨RX11, TX11, 11, rfl, gi_V m_51_7 m_51_8 m_51_9 m_1_2 m_51_10, rfl, by decide +kernel, by decide +kernel, by decide +kernel⟩
theorem cvL_94 : gCV RL 94 12 5 yX12_group cX12_group 11 (some .long) := ⟨RX12, TX12, 48, rfl, gi_V m_51_22 m_51_23 m_52_0 m_1_5 m_52_1, rfl, by decide +kernel, by decide +kernel, by decide +kernel⟩
theorem cvL_95 : gCV RL 95 11 3 yX11_of cX11_of 4 (some .long) := ⟨RX11, TX11, 11, rfl, gi_V m_52_16 m_52_17 m_52_18 m_1_2 m_52_19, rfl, by decide +kernel, by decide +kernel, by decide +kernel⟩
theorem cvL_99 : gCV RL 99 12 3 yX12_of cX12_of 4 (some .long) := ⟨RX12, TX12, 48, rfl, gi_V m_53_10 m_53_11 m_53_12 m_1_5 m_53_13, rfl, by decide +kernel, by decide +kernel, by decide +kernel⟩
