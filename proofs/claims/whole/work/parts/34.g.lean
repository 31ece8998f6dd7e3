/-! Every instruction of the law's method, checked. -/
def mChkU (y : Nat) (b : Nat × List mJ × Nat) : Bool := Nat.beq b.1 (mHd b.2.2 b.2.1) && mChkB y b.2.2 b.2.1
theorem mChkL_0 : (((mTabOf 410 mTabs).drop 0).take 10).all (mChkU 410) = true := by decide +kernel
theorem mChkL_1 : (((mTabOf 410 mTabs).drop 10).take 10).all (mChkU 410) = true := by decide +kernel
theorem mChkL_2 : (((mTabOf 410 mTabs).drop 20).take 10).all (mChkU 410) = true := by decide +kernel
theorem mChkL_3 : (((mTabOf 410 mTabs).drop 30).take 10).all (mChkU 410) = true := by decide +kernel
theorem mChkL_4 : (((mTabOf 410 mTabs).drop 40).take 10).all (mChkU 410) = true := by decide +kernel
theorem mChkL_5 : (((mTabOf 410 mTabs).drop 50).take 10).all (mChkU 410) = true := by decide +kernel
theorem mChkL_6 : (((mTabOf 410 mTabs).drop 60).take 10).all (mChkU 410) = true := by decide +kernel
theorem mChkL_7 : (((mTabOf 410 mTabs).drop 70).take 10).all (mChkU 410) = true := by decide +kernel
theorem mChkL_8 : (((mTabOf 410 mTabs).drop 80).take 10).all (mChkU 410) = true := by decide +kernel
theorem mChkL_9 : (((mTabOf 410 mTabs).drop 90).take 10).all (mChkU 410) = true := by decide +kernel
theorem mChkL_10 : (((mTabOf 410 mTabs).drop 100).take 10).all (mChkU 410) = true := by decide +kernel
theorem mChkL_11 : (((mTabOf 410 mTabs).drop 110).take 10).all (mChkU 410) = true := by decide +kernel
theorem mChkL_12 : (((mTabOf 410 mTabs).drop 120).take 10).all (mChkU 410) = true := by decide +kernel
theorem mChkL_13 : (((mTabOf 410 mTabs).drop 130).take 10).all (mChkU 410) = true := by decide +kernel
theorem mChkL_14 : (((mTabOf 410 mTabs).drop 140).take 10).all (mChkU 410) = true := by decide +kernel
theorem mChkL_15 : (((mTabOf 410 mTabs).drop 150).take 10).all (mChkU 410) = true := by decide +kernel
