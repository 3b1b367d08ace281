theorem ct_X12_text_0 : ctrO QQ CF ck_X12_text_0 mX12_text := by sorry
